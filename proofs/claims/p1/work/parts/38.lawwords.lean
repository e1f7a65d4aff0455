/-! ===== every word of every method is among the words of the tables ===== -/
theorem dk_memi {big ws : List Cond} (ps : List Nat) (hp : ws = ps.filterMap (fun i => big[i]?)) : ∀ w ∈ ws, w ∈ big := by
  intro w hw
  rw [hp] at hw
  obtain ⟨i, -, hi⟩ := List.mem_filterMap.mp hw
  first | exact List.mem_of_getElem? hi | exact List.getElem?_mem hi
set_option maxRecDepth 20000 in
theorem wl_X0 : ∀ w ∈ wsX00, w ∈ lw_tbl := dk_memi [144, 146, 148] (by decide +kernel)
set_option maxRecDepth 20000 in
theorem wl_X1 : ∀ w ∈ wsX10, w ∈ lw_tbl := dk_memi [174, 176, 178, 180, 182, 184, 186, 188] (by decide +kernel)
set_option maxRecDepth 20000 in
theorem wl_X2 : ∀ w ∈ wsX20, w ∈ lw_tbl := dk_memi [235, 237, 239, 241, 243, 245, 247, 249] (by decide +kernel)
set_option maxRecDepth 20000 in
theorem wl_X3 : ∀ w ∈ wsX30, w ∈ lw_tbl := dk_memi [264, 266, 268] (by decide +kernel)
set_option maxRecDepth 20000 in
theorem wl_X4 : ∀ w ∈ wsX40, w ∈ lw_tbl := dk_memi [109, 111, 113, 115, 117, 119, 121, 123, 125, 127] (by decide +kernel)
set_option maxRecDepth 20000 in
theorem wl_X5 : ∀ w ∈ wsX50, w ∈ lw_tbl := dk_memi [216, 218, 220, 222] (by decide +kernel)
set_option maxRecDepth 20000 in
theorem wl_X6 : ∀ w ∈ wsX60, w ∈ lw_tbl := dk_memi [278, 280, 282, 284, 286, 288, 290] (by decide +kernel)
set_option maxRecDepth 20000 in
theorem wl_X7 : ∀ w ∈ wsX70, w ∈ lw_tbl := dk_memi [797, 799, 801, 803, 805, 807, 809, 811, 813, 815, 817, 819, 821, 823, 825, 827, 829, 831, 833, 835, 837, 839, 841, 843, 845, 847, 849, 851, 853, 855, 857, 859, 861, 863, 865, 867, 869, 871, 873, 875] (by decide +kernel)
set_option maxRecDepth 20000 in
theorem lw_ovX4_spotInTurn : ∀ w ∈ ovX4_spotInTurn, w ∈ lw_tbl := dk_memi [92, 94] (by decide +kernel)
set_option maxRecDepth 20000 in
theorem lw_vsX4_spotInTurn : ∀ w ∈ vsX4_spotInTurn, w ∈ lw_tbl := List.forall_mem_cons.mpr ⟨dk_memi (ws := [.code yX4_spotInTurn cX4_spotInTurn 4 (some .int)]) [337] (by decide +kernel) _ List.mem_cons_self, List.forall_mem_append.mpr ⟨lw_ovX4_spotInTurn, (List.forall_mem_append.mpr ⟨wl_X4, (fun _ h => absurd h List.not_mem_nil)⟩)⟩⟩
set_option maxRecDepth 20000 in
theorem lw_ovX4_wireInTurn : ∀ w ∈ ovX4_wireInTurn, w ∈ lw_tbl := dk_memi [94] (by decide +kernel)
set_option maxRecDepth 20000 in
theorem lw_vsX4_wireInTurn : ∀ w ∈ vsX4_wireInTurn, w ∈ lw_tbl := List.forall_mem_cons.mpr ⟨dk_memi (ws := [.code yX4_wireInTurn cX4_wireInTurn 3 (some .int)]) [391] (by decide +kernel) _ List.mem_cons_self, List.forall_mem_append.mpr ⟨lw_ovX4_wireInTurn, (List.forall_mem_append.mpr ⟨wl_X4, (fun _ h => absurd h List.not_mem_nil)⟩)⟩⟩
set_option maxRecDepth 20000 in
theorem lw_ovX4_dartBehind : ∀ w ∈ ovX4_dartBehind, w ∈ lw_tbl := dk_memi [75, 80, 92, 387, 335, 336, 51, 388, 389, 390] (by decide +kernel)
set_option maxRecDepth 20000 in
theorem lw_vsX4_dartBehind : ∀ w ∈ vsX4_dartBehind, w ∈ lw_tbl := List.forall_mem_cons.mpr ⟨dk_memi (ws := [.code yX4_dartBehind cX4_dartBehind 6 (some .int)]) [386] (by decide +kernel) _ List.mem_cons_self, List.forall_mem_append.mpr ⟨lw_ovX4_dartBehind, (List.forall_mem_append.mpr ⟨wl_X4, (List.forall_mem_append.mpr ⟨lw_vsX4_spotInTurn, (List.forall_mem_append.mpr ⟨lw_vsX4_wireInTurn, (fun _ h => absurd h List.not_mem_nil)⟩)⟩)⟩)⟩⟩
set_option maxRecDepth 20000 in
theorem lw_ovX4_addToTurn : ∀ w ∈ ovX4_addToTurn, w ∈ lw_tbl := dk_memi [92, 94] (by decide +kernel)
set_option maxRecDepth 20000 in
theorem lw_vsX4_addToTurn : ∀ w ∈ vsX4_addToTurn, w ∈ lw_tbl := List.forall_mem_cons.mpr ⟨dk_memi (ws := [.code yX4_addToTurn cX4_addToTurn 3 none]) [341] (by decide +kernel) _ List.mem_cons_self, List.forall_mem_append.mpr ⟨lw_ovX4_addToTurn, (List.forall_mem_append.mpr ⟨wl_X4, (fun _ h => absurd h List.not_mem_nil)⟩)⟩⟩
set_option maxRecDepth 20000 in
theorem lw_ovX4_addKnot : ∀ w ∈ ovX4_addKnot, w ∈ lw_tbl := dk_memi [92, 95, 90] (by decide +kernel)
set_option maxRecDepth 20000 in
theorem lw_vsX4_addKnot : ∀ w ∈ vsX4_addKnot, w ∈ lw_tbl := List.forall_mem_cons.mpr ⟨dk_memi (ws := [.code yX4_addKnot cX4_addKnot 1 (some .int)]) [301] (by decide +kernel) _ List.mem_cons_self, List.forall_mem_append.mpr ⟨lw_ovX4_addKnot, (List.forall_mem_append.mpr ⟨wl_X4, (fun _ h => absurd h List.not_mem_nil)⟩)⟩⟩
set_option maxRecDepth 20000 in
theorem lw_ovX4_isPlain : ∀ w ∈ ovX4_isPlain, w ∈ lw_tbl := dk_memi [105, 85] (by decide +kernel)
set_option maxRecDepth 20000 in
theorem lw_vsX4_isPlain : ∀ w ∈ vsX4_isPlain, w ∈ lw_tbl := List.forall_mem_cons.mpr ⟨dk_memi (ws := [.code yX4_isPlain cX4_isPlain 2 (some .boolean)]) [374] (by decide +kernel) _ List.mem_cons_self, List.forall_mem_append.mpr ⟨lw_ovX4_isPlain, (List.forall_mem_append.mpr ⟨wl_X4, (fun _ h => absurd h List.not_mem_nil)⟩)⟩⟩
set_option maxRecDepth 20000 in
theorem lw_ovX4_isWire : ∀ w ∈ ovX4_isWire, w ∈ lw_tbl := dk_memi [100] (by decide +kernel)
set_option maxRecDepth 20000 in
theorem lw_vsX4_isWire : ∀ w ∈ vsX4_isWire, w ∈ lw_tbl := List.forall_mem_cons.mpr ⟨dk_memi (ws := [.code yX4_isWire cX4_isWire 2 (some .boolean)]) [321] (by decide +kernel) _ List.mem_cons_self, List.forall_mem_append.mpr ⟨lw_ovX4_isWire, (List.forall_mem_append.mpr ⟨wl_X4, (fun _ h => absurd h List.not_mem_nil)⟩)⟩⟩
set_option maxRecDepth 20000 in
theorem lw_ovX4_endsAt : ∀ w ∈ ovX4_endsAt, w ∈ lw_tbl := dk_memi [75, 80] (by decide +kernel)
set_option maxRecDepth 20000 in
theorem lw_vsX4_endsAt : ∀ w ∈ vsX4_endsAt, w ∈ lw_tbl := List.forall_mem_cons.mpr ⟨dk_memi (ws := [.code yX4_endsAt cX4_endsAt 3 (some .boolean)]) [333] (by decide +kernel) _ List.mem_cons_self, List.forall_mem_append.mpr ⟨lw_ovX4_endsAt, (List.forall_mem_append.mpr ⟨wl_X4, (fun _ h => absurd h List.not_mem_nil)⟩)⟩⟩
set_option maxRecDepth 20000 in
theorem lw_ovX4_addWire : ∀ w ∈ ovX4_addWire, w ∈ lw_tbl := dk_memi [75, 100, 80, 85, 87] (by decide +kernel)
set_option maxRecDepth 20000 in
theorem lw_vsX4_addWire : ∀ w ∈ vsX4_addWire, w ∈ lw_tbl := List.forall_mem_cons.mpr ⟨dk_memi (ws := [.code yX4_addWire cX4_addWire 3 (some .int)]) [313] (by decide +kernel) _ List.mem_cons_self, List.forall_mem_append.mpr ⟨lw_ovX4_addWire, (List.forall_mem_append.mpr ⟨wl_X4, (fun _ h => absurd h List.not_mem_nil)⟩)⟩⟩
set_option maxRecDepth 20000 in
theorem lw_ovX4_makeEmpty : ∀ w ∈ ovX4_makeEmpty, w ∈ lw_tbl := dk_memi [95, 100, 105] (by decide +kernel)
set_option maxRecDepth 20000 in
theorem lw_vsX4_makeEmpty : ∀ w ∈ vsX4_makeEmpty, w ∈ lw_tbl := List.forall_mem_cons.mpr ⟨dk_memi (ws := [.code yX4_makeEmpty cX4_makeEmpty 1 none]) [425] (by decide +kernel) _ List.mem_cons_self, List.forall_mem_append.mpr ⟨lw_ovX4_makeEmpty, (List.forall_mem_append.mpr ⟨wl_X4, (fun _ h => absurd h List.not_mem_nil)⟩)⟩⟩
set_option maxRecDepth 20000 in
theorem lw_ovX4_takeFrom : ∀ w ∈ ovX4_takeFrom, w ∈ lw_tbl := dk_memi [95, 100, 105, 75, 434, 436, 435, 58, 80, 85, 87, 90, 92, 94] (by decide +kernel)
set_option maxRecDepth 20000 in
theorem lw_vsX4_takeFrom : ∀ w ∈ vsX4_takeFrom, w ∈ lw_tbl := List.forall_mem_cons.mpr ⟨dk_memi (ws := [.code yX4_takeFrom cX4_takeFrom 2 none]) [433] (by decide +kernel) _ List.mem_cons_self, List.forall_mem_append.mpr ⟨lw_ovX4_takeFrom, (List.forall_mem_append.mpr ⟨wl_X4, (fun _ h => absurd h List.not_mem_nil)⟩)⟩⟩
set_option maxRecDepth 20000 in
theorem lw_ovX4_isKnot : ∀ w ∈ ovX4_isKnot, w ∈ lw_tbl := dk_memi [95] (by decide +kernel)
set_option maxRecDepth 20000 in
theorem lw_vsX4_isKnot : ∀ w ∈ vsX4_isKnot, w ∈ lw_tbl := List.forall_mem_cons.mpr ⟨dk_memi (ws := [.code yX4_isKnot cX4_isKnot 2 (some .boolean)]) [309] (by decide +kernel) _ List.mem_cons_self, List.forall_mem_append.mpr ⟨lw_ovX4_isKnot, (List.forall_mem_append.mpr ⟨wl_X4, (fun _ h => absurd h List.not_mem_nil)⟩)⟩⟩
set_option maxRecDepth 20000 in
theorem lw_ovX4_reverseTurn : ∀ w ∈ ovX4_reverseTurn, w ∈ lw_tbl := dk_memi [92, 94] (by decide +kernel)
set_option maxRecDepth 20000 in
theorem lw_vsX4_reverseTurn : ∀ w ∈ vsX4_reverseTurn, w ∈ lw_tbl := List.forall_mem_cons.mpr ⟨dk_memi (ws := [.code yX4_reverseTurn cX4_reverseTurn 5 none]) [353] (by decide +kernel) _ List.mem_cons_self, List.forall_mem_append.mpr ⟨lw_ovX4_reverseTurn, (List.forall_mem_append.mpr ⟨wl_X4, (fun _ h => absurd h List.not_mem_nil)⟩)⟩⟩
set_option maxRecDepth 20000 in
theorem lw_ovX4_hasWholeTurns : ∀ w ∈ ovX4_hasWholeTurns, w ∈ lw_tbl := dk_memi [95, 92, 100, 366, 331, 332, 51] (by decide +kernel)
set_option maxRecDepth 20000 in
theorem lw_vsX4_hasWholeTurns : ∀ w ∈ vsX4_hasWholeTurns, w ∈ lw_tbl := List.forall_mem_cons.mpr ⟨dk_memi (ws := [.code yX4_hasWholeTurns cX4_hasWholeTurns 4 (some .boolean)]) [365] (by decide +kernel) _ List.mem_cons_self, List.forall_mem_append.mpr ⟨lw_ovX4_hasWholeTurns, (List.forall_mem_append.mpr ⟨wl_X4, (List.forall_mem_append.mpr ⟨lw_vsX4_endsAt, (fun _ h => absurd h List.not_mem_nil)⟩)⟩)⟩⟩
set_option maxRecDepth 20000 in
theorem lw_ovX4_hasCutWire : ∀ w ∈ ovX4_hasCutWire, w ∈ lw_tbl := dk_memi [100, 85] (by decide +kernel)
set_option maxRecDepth 20000 in
theorem lw_vsX4_hasCutWire : ∀ w ∈ vsX4_hasCutWire, w ∈ lw_tbl := List.forall_mem_cons.mpr ⟨dk_memi (ws := [.code yX4_hasCutWire cX4_hasCutWire 2 (some .boolean)]) [395] (by decide +kernel) _ List.mem_cons_self, List.forall_mem_append.mpr ⟨lw_ovX4_hasCutWire, (List.forall_mem_append.mpr ⟨wl_X4, (fun _ h => absurd h List.not_mem_nil)⟩)⟩⟩
set_option maxRecDepth 20000 in
theorem lw_ovX4_hangsTogether : ∀ w ∈ ovX4_hangsTogether, w ∈ lw_tbl := dk_memi [95, 100, 75, 80, 371, 372, 373, 51] (by decide +kernel)
set_option maxRecDepth 20000 in
theorem lw_vsX4_hangsTogether : ∀ w ∈ vsX4_hangsTogether, w ∈ lw_tbl := List.forall_mem_cons.mpr ⟨dk_memi (ws := [.code yX4_hangsTogether cX4_hangsTogether 6 (some .boolean)]) [370] (by decide +kernel) _ List.mem_cons_self, List.forall_mem_append.mpr ⟨lw_ovX4_hangsTogether, (List.forall_mem_append.mpr ⟨wl_X4, (List.forall_mem_append.mpr ⟨lw_vsX4_isPlain, (fun _ h => absurd h List.not_mem_nil)⟩)⟩)⟩⟩
set_option maxRecDepth 20000 in
theorem lw_ovX4_wireClaimedWrong : ∀ w ∈ ovX4_wireClaimedWrong, w ∈ lw_tbl := dk_memi [100, 90, 75, 80, 87, 371, 372, 373, 51] (by decide +kernel)
set_option maxRecDepth 20000 in
theorem lw_vsX4_wireClaimedWrong : ∀ w ∈ vsX4_wireClaimedWrong, w ∈ lw_tbl := List.forall_mem_cons.mpr ⟨dk_memi (ws := [.code yX4_wireClaimedWrong cX4_wireClaimedWrong 4 (some .int)]) [733] (by decide +kernel) _ List.mem_cons_self, List.forall_mem_append.mpr ⟨lw_ovX4_wireClaimedWrong, (List.forall_mem_append.mpr ⟨wl_X4, (List.forall_mem_append.mpr ⟨lw_vsX4_isPlain, (fun _ h => absurd h List.not_mem_nil)⟩)⟩)⟩⟩
set_option maxRecDepth 20000 in
theorem lw_ovX4_claimedOutflow : ∀ w ∈ ovX4_claimedOutflow, w ∈ lw_tbl := dk_memi [100, 75, 80, 87] (by decide +kernel)
set_option maxRecDepth 20000 in
theorem lw_vsX4_claimedOutflow : ∀ w ∈ vsX4_claimedOutflow, w ∈ lw_tbl := List.forall_mem_cons.mpr ⟨dk_memi (ws := [.code yX4_claimedOutflow cX4_claimedOutflow 5 (some .long)]) [741] (by decide +kernel) _ List.mem_cons_self, List.forall_mem_append.mpr ⟨lw_ovX4_claimedOutflow, (List.forall_mem_append.mpr ⟨wl_X4, (fun _ h => absurd h List.not_mem_nil)⟩)⟩⟩
set_option maxRecDepth 20000 in
theorem lw_ovX4_knotClaimedUneven : ∀ w ∈ ovX4_knotClaimedUneven, w ∈ lw_tbl := dk_memi [95, 105, 366, 331, 332, 51, 738, 739, 740] (by decide +kernel)
set_option maxRecDepth 20000 in
theorem lw_vsX4_knotClaimedUneven : ∀ w ∈ vsX4_knotClaimedUneven, w ∈ lw_tbl := List.forall_mem_cons.mpr ⟨dk_memi (ws := [.code yX4_knotClaimedUneven cX4_knotClaimedUneven 2 (some .int)]) [737] (by decide +kernel) _ List.mem_cons_self, List.forall_mem_append.mpr ⟨lw_ovX4_knotClaimedUneven, (List.forall_mem_append.mpr ⟨wl_X4, (List.forall_mem_append.mpr ⟨lw_vsX4_endsAt, (List.forall_mem_append.mpr ⟨lw_vsX4_claimedOutflow, (fun _ h => absurd h List.not_mem_nil)⟩)⟩)⟩)⟩⟩
set_option maxRecDepth 20000 in
theorem lw_ovX5_add : ∀ w ∈ ovX5_add, w ∈ lw_tbl := dk_memi [212, 204, 207, 210] (by decide +kernel)
set_option maxRecDepth 20000 in
theorem lw_vsX5_add : ∀ w ∈ vsX5_add, w ∈ lw_tbl := List.forall_mem_cons.mpr ⟨dk_memi (ws := [.code yX5_add cX5_add 4 none]) [553] (by decide +kernel) _ List.mem_cons_self, List.forall_mem_append.mpr ⟨lw_ovX5_add, (List.forall_mem_append.mpr ⟨wl_X5, (fun _ h => absurd h List.not_mem_nil)⟩)⟩⟩
set_option maxRecDepth 20000 in
theorem lw_ovX5_right : ∀ w ∈ ovX5_right, w ∈ lw_tbl := dk_memi [204, 210] (by decide +kernel)
set_option maxRecDepth 20000 in
theorem lw_vsX5_right : ∀ w ∈ vsX5_right, w ∈ lw_tbl := List.forall_mem_cons.mpr ⟨dk_memi (ws := [.code yX5_right cX5_right 2 (some .int)]) [565] (by decide +kernel) _ List.mem_cons_self, List.forall_mem_append.mpr ⟨lw_ovX5_right, (List.forall_mem_append.mpr ⟨wl_X5, (fun _ h => absurd h List.not_mem_nil)⟩)⟩⟩
set_option maxRecDepth 20000 in
theorem lw_ovX5_top : ∀ w ∈ ovX5_top, w ∈ lw_tbl := dk_memi [207, 210] (by decide +kernel)
set_option maxRecDepth 20000 in
theorem lw_vsX5_top : ∀ w ∈ vsX5_top, w ∈ lw_tbl := List.forall_mem_cons.mpr ⟨dk_memi (ws := [.code yX5_top cX5_top 2 (some .int)]) [569] (by decide +kernel) _ List.mem_cons_self, List.forall_mem_append.mpr ⟨lw_ovX5_top, (List.forall_mem_append.mpr ⟨wl_X5, (fun _ h => absurd h List.not_mem_nil)⟩)⟩⟩
set_option maxRecDepth 20000 in
theorem lw_ovX5_covers : ∀ w ∈ ovX5_covers, w ∈ lw_tbl := dk_memi [204, 207, 620, 563, 564, 55, 621, 567, 568] (by decide +kernel)
set_option maxRecDepth 20000 in
theorem lw_vsX5_covers : ∀ w ∈ vsX5_covers, w ∈ lw_tbl := List.forall_mem_cons.mpr ⟨dk_memi (ws := [.code yX5_covers cX5_covers 4 (some .boolean)]) [619] (by decide +kernel) _ List.mem_cons_self, List.forall_mem_append.mpr ⟨lw_ovX5_covers, (List.forall_mem_append.mpr ⟨wl_X5, (List.forall_mem_append.mpr ⟨lw_vsX5_right, (List.forall_mem_append.mpr ⟨lw_vsX5_top, (fun _ h => absurd h List.not_mem_nil)⟩)⟩)⟩)⟩⟩
set_option maxRecDepth 20000 in
theorem lw_ovJ6_bitCount_0f7a4 : ∀ w ∈ ovJ6_bitCount_0f7a4, w ∈ lw_tbl := dk_memi [581, 582, 583] (by decide +kernel)
set_option maxRecDepth 20000 in
theorem lw_vsJ6_bitCount_0f7a4 : ∀ w ∈ vsJ6_bitCount_0f7a4, w ∈ lw_tbl := List.forall_mem_cons.mpr ⟨dk_memi (ws := [.code yJ6_bitCount_0f7a4 cJ6_bitCount_0f7a4 1 (some .int)]) [580] (by decide +kernel) _ List.mem_cons_self, List.forall_mem_append.mpr ⟨lw_ovJ6_bitCount_0f7a4, (fun _ h => absurd h List.not_mem_nil)⟩⟩
set_option maxRecDepth 20000 in
theorem lw_ovX5_canBe : ∀ w ∈ ovX5_canBe, w ∈ lw_tbl := dk_memi [629] (by decide +kernel)
set_option maxRecDepth 20000 in
theorem lw_vsX5_canBe : ∀ w ∈ vsX5_canBe, w ∈ lw_tbl := List.forall_mem_cons.mpr ⟨dk_memi (ws := [.code yX5_canBe cX5_canBe 2 (some .boolean)]) [628] (by decide +kernel) _ List.mem_cons_self, List.forall_mem_append.mpr ⟨lw_ovX5_canBe, (fun _ h => absurd h List.not_mem_nil)⟩⟩
set_option maxRecDepth 20000 in
theorem lw_ovX5_takeFrom : ∀ w ∈ ovX5_takeFrom, w ∈ lw_tbl := dk_memi [212, 204, 651, 436, 435, 58, 207, 210] (by decide +kernel)
set_option maxRecDepth 20000 in
theorem lw_vsX5_takeFrom : ∀ w ∈ vsX5_takeFrom, w ∈ lw_tbl := List.forall_mem_cons.mpr ⟨dk_memi (ws := [.code yX5_takeFrom cX5_takeFrom 2 none]) [650] (by decide +kernel) _ List.mem_cons_self, List.forall_mem_append.mpr ⟨lw_ovX5_takeFrom, (List.forall_mem_append.mpr ⟨wl_X5, (fun _ h => absurd h List.not_mem_nil)⟩)⟩⟩
set_option maxRecDepth 20000 in
theorem lw_ovX5_tellOne : ∀ w ∈ ovX5_tellOne, w ∈ lw_tbl := dk_memi [210, 207, 204] (by decide +kernel)
set_option maxRecDepth 20000 in
theorem lw_vsX5_tellOne : ∀ w ∈ vsX5_tellOne, w ∈ lw_tbl := List.forall_mem_cons.mpr ⟨dk_memi (ws := [.code yX5_tellOne cX5_tellOne 3 (some .int)]) [599] (by decide +kernel) _ List.mem_cons_self, List.forall_mem_append.mpr ⟨lw_ovX5_tellOne, (List.forall_mem_append.mpr ⟨wl_X5, (fun _ h => absurd h List.not_mem_nil)⟩)⟩⟩
set_option maxRecDepth 20000 in
theorem lw_ovX5_setOne : ∀ w ∈ ovX5_setOne, w ∈ lw_tbl := dk_memi [210, 207, 204] (by decide +kernel)
set_option maxRecDepth 20000 in
theorem lw_vsX5_setOne : ∀ w ∈ vsX5_setOne, w ∈ lw_tbl := List.forall_mem_cons.mpr ⟨dk_memi (ws := [.code yX5_setOne cX5_setOne 4 none]) [638] (by decide +kernel) _ List.mem_cons_self, List.forall_mem_append.mpr ⟨lw_ovX5_setOne, (List.forall_mem_append.mpr ⟨wl_X5, (fun _ h => absurd h List.not_mem_nil)⟩)⟩⟩
set_option maxRecDepth 20000 in
theorem lw_ovX5_overlap : ∀ w ∈ ovX5_overlap, w ∈ lw_tbl := dk_memi [204, 207, 620, 563, 564, 55, 621, 567, 568] (by decide +kernel)
set_option maxRecDepth 20000 in
theorem lw_vsX5_overlap : ∀ w ∈ vsX5_overlap, w ∈ lw_tbl := List.forall_mem_cons.mpr ⟨dk_memi (ws := [.code yX5_overlap cX5_overlap 3 (some .boolean)]) [668] (by decide +kernel) _ List.mem_cons_self, List.forall_mem_append.mpr ⟨lw_ovX5_overlap, (List.forall_mem_append.mpr ⟨wl_X5, (List.forall_mem_append.mpr ⟨lw_vsX5_right, (List.forall_mem_append.mpr ⟨lw_vsX5_top, (fun _ h => absurd h List.not_mem_nil)⟩)⟩)⟩)⟩⟩
set_option maxRecDepth 20000 in
theorem lw_ovX5_area : ∀ w ∈ ovX5_area, w ∈ lw_tbl := dk_memi [212, 210] (by decide +kernel)
set_option maxRecDepth 20000 in
theorem lw_vsX5_area : ∀ w ∈ vsX5_area, w ∈ lw_tbl := List.forall_mem_cons.mpr ⟨dk_memi (ws := [.code yX5_area cX5_area 4 (some .long)]) [672] (by decide +kernel) _ List.mem_cons_self, List.forall_mem_append.mpr ⟨lw_ovX5_area, (List.forall_mem_append.mpr ⟨wl_X5, (fun _ h => absurd h List.not_mem_nil)⟩)⟩⟩
set_option maxRecDepth 20000 in
theorem lw_ovX5_findFault : ∀ w ∈ ovX5_findFault, w ∈ lw_tbl := dk_memi [212, 669, 671, 17, 55, 620, 563, 564, 621, 567, 568, 665, 666, 667] (by decide +kernel)
set_option maxRecDepth 20000 in
theorem lw_vsX5_findFault : ∀ w ∈ vsX5_findFault, w ∈ lw_tbl := List.forall_mem_cons.mpr ⟨dk_memi (ws := [.code yX5_findFault cX5_findFault 5 (some .int)]) [664] (by decide +kernel) _ List.mem_cons_self, List.forall_mem_append.mpr ⟨lw_ovX5_findFault, (List.forall_mem_append.mpr ⟨wl_X5, (List.forall_mem_append.mpr ⟨lw_vsX5_area, (List.forall_mem_append.mpr ⟨lw_vsX5_right, (List.forall_mem_append.mpr ⟨lw_vsX5_top, (List.forall_mem_append.mpr ⟨lw_vsX5_overlap, (fun _ h => absurd h List.not_mem_nil)⟩)⟩)⟩)⟩)⟩)⟩⟩
set_option maxRecDepth 20000 in
theorem lw_ovX0_traceRing : ∀ w ∈ ovX0_traceRing, w ∈ lw_tbl := dk_memi [138, 141, 140, 383, 384, 385, 51] (by decide +kernel)
set_option maxRecDepth 20000 in
theorem lw_vsX0_traceRing : ∀ w ∈ vsX0_traceRing, w ∈ lw_tbl := List.forall_mem_cons.mpr ⟨dk_memi (ws := [.code yX0_traceRing cX0_traceRing 7 none]) [382] (by decide +kernel) _ List.mem_cons_self, List.forall_mem_append.mpr ⟨lw_ovX0_traceRing, (List.forall_mem_append.mpr ⟨wl_X0, (List.forall_mem_append.mpr ⟨lw_vsX4_dartBehind, (fun _ h => absurd h List.not_mem_nil)⟩)⟩)⟩⟩
set_option maxRecDepth 20000 in
theorem lw_ovX0_trace : ∀ w ∈ ovX0_trace, w ∈ lw_tbl := dk_memi [101, 141, 138, 379, 381, 1, 52] (by decide +kernel)
set_option maxRecDepth 20000 in
theorem lw_vsX0_trace : ∀ w ∈ vsX0_trace, w ∈ lw_tbl := List.forall_mem_cons.mpr ⟨dk_memi (ws := [.code yX0_trace cX0_trace 4 none]) [378] (by decide +kernel) _ List.mem_cons_self, List.forall_mem_append.mpr ⟨lw_ovX0_trace, (List.forall_mem_append.mpr ⟨wl_X4, (List.forall_mem_append.mpr ⟨wl_X0, (List.forall_mem_append.mpr ⟨lw_vsX0_traceRing, (fun _ h => absurd h List.not_mem_nil)⟩)⟩)⟩)⟩⟩
set_option maxRecDepth 20000 in
theorem lw_ovX0_rightOf : ∀ w ∈ ovX0_rightOf, w ∈ lw_tbl := dk_memi [138] (by decide +kernel)
set_option maxRecDepth 20000 in
theorem lw_vsX0_rightOf : ∀ w ∈ vsX0_rightOf, w ∈ lw_tbl := List.forall_mem_cons.mpr ⟨dk_memi (ws := [.code yX0_rightOf cX0_rightOf 2 (some .int)]) [403] (by decide +kernel) _ List.mem_cons_self, List.forall_mem_append.mpr ⟨lw_ovX0_rightOf, (List.forall_mem_append.mpr ⟨wl_X0, (fun _ h => absurd h List.not_mem_nil)⟩)⟩⟩
set_option maxRecDepth 20000 in
theorem lw_ovX0_leftOf : ∀ w ∈ ovX0_leftOf, w ∈ lw_tbl := dk_memi [138] (by decide +kernel)
set_option maxRecDepth 20000 in
theorem lw_vsX0_leftOf : ∀ w ∈ vsX0_leftOf, w ∈ lw_tbl := List.forall_mem_cons.mpr ⟨dk_memi (ws := [.code yX0_leftOf cX0_leftOf 2 (some .int)]) [407] (by decide +kernel) _ List.mem_cons_self, List.forall_mem_append.mpr ⟨lw_ovX0_leftOf, (List.forall_mem_append.mpr ⟨wl_X0, (fun _ h => absurd h List.not_mem_nil)⟩)⟩⟩
set_option maxRecDepth 20000 in
theorem lw_ovX0_hasWireWithinOneFace : ∀ w ∈ ovX0_hasWireWithinOneFace, w ∈ lw_tbl := dk_memi [400, 401, 402, 52, 404, 405, 406] (by decide +kernel)
set_option maxRecDepth 20000 in
theorem lw_vsX0_hasWireWithinOneFace : ∀ w ∈ vsX0_hasWireWithinOneFace, w ∈ lw_tbl := List.forall_mem_cons.mpr ⟨dk_memi (ws := [.code yX0_hasWireWithinOneFace cX0_hasWireWithinOneFace 3 (some .boolean)]) [399] (by decide +kernel) _ List.mem_cons_self, List.forall_mem_append.mpr ⟨lw_ovX0_hasWireWithinOneFace, (List.forall_mem_append.mpr ⟨lw_vsX0_rightOf, (List.forall_mem_append.mpr ⟨lw_vsX0_leftOf, (fun _ h => absurd h List.not_mem_nil)⟩)⟩)⟩⟩
set_option maxRecDepth 20000 in
theorem lw_ovX0_layRing : ∀ w ∈ ovX0_layRing, w ∈ lw_tbl := dk_memi [138, 140, 417, 339, 340, 51] (by decide +kernel)
set_option maxRecDepth 20000 in
theorem lw_vsX0_layRing : ∀ w ∈ vsX0_layRing, w ∈ lw_tbl := List.forall_mem_cons.mpr ⟨dk_memi (ws := [.code yX0_layRing cX0_layRing 6 none]) [416] (by decide +kernel) _ List.mem_cons_self, List.forall_mem_append.mpr ⟨lw_ovX0_layRing, (List.forall_mem_append.mpr ⟨wl_X0, (List.forall_mem_append.mpr ⟨lw_vsX4_addToTurn, (fun _ h => absurd h List.not_mem_nil)⟩)⟩)⟩⟩
set_option maxRecDepth 20000 in
theorem lw_ovX0_makeKnotsOfFaces : ∀ w ∈ ovX0_makeKnotsOfFaces, w ∈ lw_tbl := dk_memi [99, 141, 101, 78, 83, 88, 138, 412, 299, 300, 51, 400, 401, 402, 52, 404, 405, 406, 413, 415, 2] (by decide +kernel)
set_option maxRecDepth 20000 in
theorem lw_vsX0_makeKnotsOfFaces : ∀ w ∈ vsX0_makeKnotsOfFaces, w ∈ lw_tbl := List.forall_mem_cons.mpr ⟨dk_memi (ws := [.code yX0_makeKnotsOfFaces cX0_makeKnotsOfFaces 4 none]) [411] (by decide +kernel) _ List.mem_cons_self, List.forall_mem_append.mpr ⟨lw_ovX0_makeKnotsOfFaces, (List.forall_mem_append.mpr ⟨wl_X4, (List.forall_mem_append.mpr ⟨wl_X0, (List.forall_mem_append.mpr ⟨lw_vsX4_addKnot, (List.forall_mem_append.mpr ⟨lw_vsX0_rightOf, (List.forall_mem_append.mpr ⟨lw_vsX0_leftOf, (List.forall_mem_append.mpr ⟨lw_vsX0_layRing, (fun _ h => absurd h List.not_mem_nil)⟩)⟩)⟩)⟩)⟩)⟩)⟩⟩
set_option maxRecDepth 20000 in
theorem lw_ovX1_reduceRow : ∀ w ∈ ovX1_reduceRow, w ∈ lw_tbl := dk_memi [157] (by decide +kernel)
set_option maxRecDepth 20000 in
theorem lw_vsX1_reduceRow : ∀ w ∈ vsX1_reduceRow, w ∈ lw_tbl := List.forall_mem_cons.mpr ⟨dk_memi (ws := [.code yX1_reduceRow cX1_reduceRow 11 none]) [491] (by decide +kernel) _ List.mem_cons_self, List.forall_mem_append.mpr ⟨lw_ovX1_reduceRow, (List.forall_mem_append.mpr ⟨wl_X1, (fun _ h => absurd h List.not_mem_nil)⟩)⟩⟩
set_option maxRecDepth 20000 in
theorem lw_ovX1_eliminate : ∀ w ∈ ovX1_eliminate, w ∈ lw_tbl := dk_memi [172, 157, 488, 490, 7, 53] (by decide +kernel)
set_option maxRecDepth 20000 in
theorem lw_vsX1_eliminate : ∀ w ∈ vsX1_eliminate, w ∈ lw_tbl := List.forall_mem_cons.mpr ⟨dk_memi (ws := [.code yX1_eliminate cX1_eliminate 8 none]) [487] (by decide +kernel) _ List.mem_cons_self, List.forall_mem_append.mpr ⟨lw_ovX1_eliminate, (List.forall_mem_append.mpr ⟨wl_X1, (List.forall_mem_append.mpr ⟨lw_vsX1_reduceRow, (fun _ h => absurd h List.not_mem_nil)⟩)⟩)⟩⟩
set_option maxRecDepth 20000 in
theorem lw_ovX1_placeAcross : ∀ w ∈ ovX1_placeAcross, w ∈ lw_tbl := dk_memi [167, 164] (by decide +kernel)
set_option maxRecDepth 20000 in
theorem lw_vsX1_placeAcross : ∀ w ∈ vsX1_placeAcross, w ∈ lw_tbl := List.forall_mem_cons.mpr ⟨dk_memi (ws := [.code yX1_placeAcross cX1_placeAcross 4 none]) [515] (by decide +kernel) _ List.mem_cons_self, List.forall_mem_append.mpr ⟨lw_ovX1_placeAcross, (List.forall_mem_append.mpr ⟨wl_X1, (fun _ h => absurd h List.not_mem_nil)⟩)⟩⟩
set_option maxRecDepth 20000 in
theorem lw_ovX1_placeFaces : ∀ w ∈ ovX1_placeFaces, w ∈ lw_tbl := dk_memi [164, 106, 167, 142, 103, 161, 510, 405, 406, 52, 511, 401, 402, 512, 514, 11, 53] (by decide +kernel)
set_option maxRecDepth 20000 in
theorem lw_vsX1_placeFaces : ∀ w ∈ vsX1_placeFaces, w ∈ lw_tbl := List.forall_mem_cons.mpr ⟨dk_memi (ws := [.code yX1_placeFaces cX1_placeFaces 5 none]) [509] (by decide +kernel) _ List.mem_cons_self, List.forall_mem_append.mpr ⟨lw_ovX1_placeFaces, (List.forall_mem_append.mpr ⟨wl_X1, (List.forall_mem_append.mpr ⟨wl_X4, (List.forall_mem_append.mpr ⟨wl_X0, (List.forall_mem_append.mpr ⟨lw_vsX0_leftOf, (List.forall_mem_append.mpr ⟨lw_vsX0_rightOf, (List.forall_mem_append.mpr ⟨lw_vsX1_placeAcross, (fun _ h => absurd h List.not_mem_nil)⟩)⟩)⟩)⟩)⟩)⟩)⟩⟩
set_option maxRecDepth 20000 in
theorem lw_ovX1_takeCurrents : ∀ w ∈ ovX1_takeCurrents, w ∈ lw_tbl := dk_memi [76, 106, 168, 103, 82, 161, 158, 479, 372, 373, 51] (by decide +kernel)
set_option maxRecDepth 20000 in
theorem lw_vsX1_takeCurrents : ∀ w ∈ vsX1_takeCurrents, w ∈ lw_tbl := List.forall_mem_cons.mpr ⟨dk_memi (ws := [.code yX1_takeCurrents cX1_takeCurrents 6 none]) [505] (by decide +kernel) _ List.mem_cons_self, List.forall_mem_append.mpr ⟨lw_ovX1_takeCurrents, (List.forall_mem_append.mpr ⟨wl_X4, (List.forall_mem_append.mpr ⟨wl_X1, (List.forall_mem_append.mpr ⟨lw_vsX4_isPlain, (fun _ h => absurd h List.not_mem_nil)⟩)⟩)⟩)⟩⟩
set_option maxRecDepth 20000 in
theorem lw_ovX1_commonDivisor : ∀ w ∈ ovX1_commonDivisor, w ∈ lw_tbl := dk_memi [499, 500, 59, 501] (by decide +kernel)
set_option maxRecDepth 20000 in
theorem lw_vsX1_commonDivisor : ∀ w ∈ vsX1_commonDivisor, w ∈ lw_tbl := List.forall_mem_cons.mpr ⟨dk_memi (ws := [.code yX1_commonDivisor cX1_commonDivisor 11 (some .long)]) [498] (by decide +kernel) _ List.mem_cons_self, List.forall_mem_append.mpr ⟨lw_ovX1_commonDivisor, (fun _ h => absurd h List.not_mem_nil)⟩⟩
set_option maxRecDepth 20000 in
theorem lw_ovX1_takeHeights : ∀ w ∈ ovX1_takeHeights, w ∈ lw_tbl := dk_memi [157, 158, 496, 497, 53] (by decide +kernel)
set_option maxRecDepth 20000 in
theorem lw_vsX1_takeHeights : ∀ w ∈ vsX1_takeHeights, w ∈ lw_tbl := List.forall_mem_cons.mpr ⟨dk_memi (ws := [.code yX1_takeHeights cX1_takeHeights 5 none]) [495] (by decide +kernel) _ List.mem_cons_self, List.forall_mem_append.mpr ⟨lw_ovX1_takeHeights, (List.forall_mem_append.mpr ⟨wl_X1, (List.forall_mem_append.mpr ⟨lw_vsX1_commonDivisor, (fun _ h => absurd h List.not_mem_nil)⟩)⟩)⟩⟩
set_option maxRecDepth 20000 in
theorem lw_ovX1_writeWire : ∀ w ∈ ovX1_writeWire, w ∈ lw_tbl := dk_memi [157] (by decide +kernel)
set_option maxRecDepth 20000 in
theorem lw_vsX1_writeWire : ∀ w ∈ vsX1_writeWire, w ∈ lw_tbl := List.forall_mem_cons.mpr ⟨dk_memi (ws := [.code yX1_writeWire cX1_writeWire 3 none]) [483] (by decide +kernel) _ List.mem_cons_self, List.forall_mem_append.mpr ⟨lw_ovX1_writeWire, (List.forall_mem_append.mpr ⟨wl_X1, (fun _ h => absurd h List.not_mem_nil)⟩)⟩⟩
set_option maxRecDepth 20000 in
theorem lw_ovX1_writeRows : ∀ w ∈ ovX1_writeRows, w ∈ lw_tbl := dk_memi [82, 106, 157, 76, 97, 103, 479, 372, 373, 51, 480, 482, 5, 53] (by decide +kernel)
set_option maxRecDepth 20000 in
theorem lw_vsX1_writeRows : ∀ w ∈ vsX1_writeRows, w ∈ lw_tbl := List.forall_mem_cons.mpr ⟨dk_memi (ws := [.code yX1_writeRows cX1_writeRows 4 none]) [478] (by decide +kernel) _ List.mem_cons_self, List.forall_mem_append.mpr ⟨lw_ovX1_writeRows, (List.forall_mem_append.mpr ⟨wl_X4, (List.forall_mem_append.mpr ⟨wl_X1, (List.forall_mem_append.mpr ⟨lw_vsX4_isPlain, (List.forall_mem_append.mpr ⟨lw_vsX1_writeWire, (fun _ h => absurd h List.not_mem_nil)⟩)⟩)⟩)⟩)⟩⟩
set_option maxRecDepth 20000 in
theorem lw_ovX1_solve : ∀ w ∈ ovX1_solve, w ∈ lw_tbl := dk_memi [106, 97, 158, 76, 170, 474, 319, 320, 51, 475, 477, 4, 53, 484, 486, 6, 492, 494, 8, 502, 504, 9, 506, 508, 10] (by decide +kernel)
set_option maxRecDepth 20000 in
theorem lw_vsX1_solve : ∀ w ∈ vsX1_solve, w ∈ lw_tbl := List.forall_mem_cons.mpr ⟨dk_memi (ws := [.code yX1_solve cX1_solve 3 none]) [473] (by decide +kernel) _ List.mem_cons_self, List.forall_mem_append.mpr ⟨lw_ovX1_solve, (List.forall_mem_append.mpr ⟨wl_X4, (List.forall_mem_append.mpr ⟨wl_X1, (List.forall_mem_append.mpr ⟨lw_vsX4_isWire, (List.forall_mem_append.mpr ⟨lw_vsX1_writeRows, (List.forall_mem_append.mpr ⟨lw_vsX1_eliminate, (List.forall_mem_append.mpr ⟨lw_vsX1_takeHeights, (List.forall_mem_append.mpr ⟨lw_vsX1_takeCurrents, (List.forall_mem_append.mpr ⟨lw_vsX1_placeFaces, (fun _ h => absurd h List.not_mem_nil)⟩)⟩)⟩)⟩)⟩)⟩)⟩)⟩)⟩⟩
set_option maxRecDepth 20000 in
theorem lw_ovX3_levelOf : ∀ w ∈ ovX3_levelOf, w ∈ lw_tbl := dk_memi [208, 691, 567, 568, 55] (by decide +kernel)
set_option maxRecDepth 20000 in
theorem lw_vsX3_levelOf : ∀ w ∈ vsX3_levelOf, w ∈ lw_tbl := List.forall_mem_cons.mpr ⟨dk_memi (ws := [.code yX3_levelOf cX3_levelOf 2 (some .int)]) [690] (by decide +kernel) _ List.mem_cons_self, List.forall_mem_append.mpr ⟨lw_ovX3_levelOf, (List.forall_mem_append.mpr ⟨wl_X5, (List.forall_mem_append.mpr ⟨lw_vsX5_top, (fun _ h => absurd h List.not_mem_nil)⟩)⟩)⟩⟩
set_option maxRecDepth 20000 in
theorem lw_ovX3_isEarlier : ∀ w ∈ ovX3_isEarlier, w ∈ lw_tbl := dk_memi [205, 688, 689, 56] (by decide +kernel)
set_option maxRecDepth 20000 in
theorem lw_vsX3_isEarlier : ∀ w ∈ vsX3_isEarlier, w ∈ lw_tbl := List.forall_mem_cons.mpr ⟨dk_memi (ws := [.code yX3_isEarlier cX3_isEarlier 5 (some .boolean)]) [687] (by decide +kernel) _ List.mem_cons_self, List.forall_mem_append.mpr ⟨lw_ovX3_isEarlier, (List.forall_mem_append.mpr ⟨wl_X5, (List.forall_mem_append.mpr ⟨lw_vsX3_levelOf, (fun _ h => absurd h List.not_mem_nil)⟩)⟩)⟩⟩
set_option maxRecDepth 20000 in
theorem lw_ovX3_sortEdges : ∀ w ∈ ovX3_sortEdges, w ∈ lw_tbl := dk_memi [214, 260, 685, 686, 56] (by decide +kernel)
set_option maxRecDepth 20000 in
theorem lw_vsX3_sortEdges : ∀ w ∈ vsX3_sortEdges, w ∈ lw_tbl := List.forall_mem_cons.mpr ⟨dk_memi (ws := [.code yX3_sortEdges cX3_sortEdges 4 none]) [684] (by decide +kernel) _ List.mem_cons_self, List.forall_mem_append.mpr ⟨lw_ovX3_sortEdges, (List.forall_mem_append.mpr ⟨wl_X5, (List.forall_mem_append.mpr ⟨wl_X3, (List.forall_mem_append.mpr ⟨lw_vsX3_isEarlier, (fun _ h => absurd h List.not_mem_nil)⟩)⟩)⟩)⟩⟩
set_option maxRecDepth 20000 in
theorem lw_ovX3_find : ∀ w ∈ ovX3_find, w ∈ lw_tbl := dk_memi [262, 214, 260, 205, 693, 694, 59, 695, 261, 681, 683, 18, 56, 688, 689, 692, 563, 564, 55] (by decide +kernel)
set_option maxRecDepth 20000 in
theorem lw_vsX3_find : ∀ w ∈ vsX3_find, w ∈ lw_tbl := List.forall_mem_cons.mpr ⟨dk_memi (ws := [.code yX3_find cX3_find 7 none]) [680] (by decide +kernel) _ List.mem_cons_self, List.forall_mem_append.mpr ⟨lw_ovX3_find, (List.forall_mem_append.mpr ⟨wl_X3, (List.forall_mem_append.mpr ⟨wl_X5, (List.forall_mem_append.mpr ⟨lw_vsX3_sortEdges, (List.forall_mem_append.mpr ⟨lw_vsX3_levelOf, (List.forall_mem_append.mpr ⟨lw_vsX5_right, (fun _ h => absurd h List.not_mem_nil)⟩)⟩)⟩)⟩)⟩)⟩⟩
set_option maxRecDepth 20000 in
theorem lw_ovX3_layTurn : ∀ w ∈ ovX3_layTurn, w ∈ lw_tbl := dk_memi [214, 108, 261, 260, 708, 331, 332, 51, 707, 339, 340] (by decide +kernel)
set_option maxRecDepth 20000 in
theorem lw_vsX3_layTurn : ∀ w ∈ vsX3_layTurn, w ∈ lw_tbl := List.forall_mem_cons.mpr ⟨dk_memi (ws := [.code yX3_layTurn cX3_layTurn 6 none]) [706] (by decide +kernel) _ List.mem_cons_self, List.forall_mem_append.mpr ⟨lw_ovX3_layTurn, (List.forall_mem_append.mpr ⟨wl_X5, (List.forall_mem_append.mpr ⟨wl_X4, (List.forall_mem_append.mpr ⟨wl_X3, (List.forall_mem_append.mpr ⟨lw_vsX4_endsAt, (List.forall_mem_append.mpr ⟨lw_vsX4_addToTurn, (fun _ h => absurd h List.not_mem_nil)⟩)⟩)⟩)⟩)⟩)⟩⟩
set_option maxRecDepth 20000 in
theorem lw_ovX3_makeNet : ∀ w ∈ ovX3_makeNet, w ∈ lw_tbl := dk_memi [262, 108, 214, 261, 98, 700, 423, 424, 51, 701, 299, 300, 702, 311, 312, 703, 705, 19, 56] (by decide +kernel)
set_option maxRecDepth 20000 in
theorem lw_vsX3_makeNet : ∀ w ∈ vsX3_makeNet, w ∈ lw_tbl := List.forall_mem_cons.mpr ⟨dk_memi (ws := [.code yX3_makeNet cX3_makeNet 4 none]) [699] (by decide +kernel) _ List.mem_cons_self, List.forall_mem_append.mpr ⟨lw_ovX3_makeNet, (List.forall_mem_append.mpr ⟨wl_X3, (List.forall_mem_append.mpr ⟨wl_X4, (List.forall_mem_append.mpr ⟨wl_X5, (List.forall_mem_append.mpr ⟨lw_vsX4_makeEmpty, (List.forall_mem_append.mpr ⟨lw_vsX4_addKnot, (List.forall_mem_append.mpr ⟨lw_vsX4_addWire, (List.forall_mem_append.mpr ⟨lw_vsX3_layTurn, (fun _ h => absurd h List.not_mem_nil)⟩)⟩)⟩)⟩)⟩)⟩)⟩)⟩⟩
set_option maxRecDepth 20000 in
theorem lw_ovX2_build : ∀ w ∈ ovX2_build, w ∈ lw_tbl := dk_memi [225, 213, 228, 102, 162, 227, 165, 544, 545, 59, 546, 159, 77, 81, 547, 548, 549, 541, 372, 373, 51, 542, 405, 406, 52, 543, 401, 402, 550, 551, 552, 55] (by decide +kernel)
set_option maxRecDepth 20000 in
theorem lw_vsX2_build : ∀ w ∈ vsX2_build, w ∈ lw_tbl := List.forall_mem_cons.mpr ⟨dk_memi (ws := [.code yX2_build cX2_build 5 none]) [540] (by decide +kernel) _ List.mem_cons_self, List.forall_mem_append.mpr ⟨lw_ovX2_build, (List.forall_mem_append.mpr ⟨wl_X2, (List.forall_mem_append.mpr ⟨wl_X5, (List.forall_mem_append.mpr ⟨wl_X4, (List.forall_mem_append.mpr ⟨wl_X1, (List.forall_mem_append.mpr ⟨lw_vsX4_isPlain, (List.forall_mem_append.mpr ⟨lw_vsX0_leftOf, (List.forall_mem_append.mpr ⟨lw_vsX0_rightOf, (List.forall_mem_append.mpr ⟨lw_vsX5_add, (fun _ h => absurd h List.not_mem_nil)⟩)⟩)⟩)⟩)⟩)⟩)⟩)⟩)⟩⟩
set_option maxRecDepth 20000 in
theorem lw_ovX2_squareOfWire : ∀ w ∈ ovX2_squareOfWire, w ∈ lw_tbl := dk_memi [225, 213, 227] (by decide +kernel)
set_option maxRecDepth 20000 in
theorem lw_vsX2_squareOfWire : ∀ w ∈ vsX2_squareOfWire, w ∈ lw_tbl := List.forall_mem_cons.mpr ⟨dk_memi (ws := [.code yX2_squareOfWire cX2_squareOfWire 3 (some .int)]) [595] (by decide +kernel) _ List.mem_cons_self, List.forall_mem_append.mpr ⟨lw_ovX2_squareOfWire, (List.forall_mem_append.mpr ⟨wl_X2, (List.forall_mem_append.mpr ⟨wl_X5, (fun _ h => absurd h List.not_mem_nil)⟩)⟩)⟩⟩
set_option maxRecDepth 20000 in
theorem lw_ovX2_wireOnUnit : ∀ w ∈ ovX2_wireOnUnit, w ∈ lw_tbl := dk_memi [225, 213, 227, 616, 617, 618, 55] (by decide +kernel)
set_option maxRecDepth 20000 in
theorem lw_vsX2_wireOnUnit : ∀ w ∈ vsX2_wireOnUnit, w ∈ lw_tbl := List.forall_mem_cons.mpr ⟨dk_memi (ws := [.code yX2_wireOnUnit cX2_wireOnUnit 4 (some .int)]) [615] (by decide +kernel) _ List.mem_cons_self, List.forall_mem_append.mpr ⟨lw_ovX2_wireOnUnit, (List.forall_mem_append.mpr ⟨wl_X2, (List.forall_mem_append.mpr ⟨wl_X5, (List.forall_mem_append.mpr ⟨lw_vsX5_covers, (fun _ h => absurd h List.not_mem_nil)⟩)⟩)⟩)⟩⟩
set_option maxRecDepth 20000 in
theorem lw_ovX2_isPerfect : ∀ w ∈ ovX2_isPerfect, w ∈ lw_tbl := dk_memi [228, 225, 213, 211] (by decide +kernel)
set_option maxRecDepth 20000 in
theorem lw_vsX2_isPerfect : ∀ w ∈ vsX2_isPerfect, w ∈ lw_tbl := List.forall_mem_cons.mpr ⟨dk_memi (ws := [.code yX2_isPerfect cX2_isPerfect 3 (some .boolean)]) [557] (by decide +kernel) _ List.mem_cons_self, List.forall_mem_append.mpr ⟨lw_ovX2_isPerfect, (List.forall_mem_append.mpr ⟨wl_X2, (List.forall_mem_append.mpr ⟨wl_X5, (fun _ h => absurd h List.not_mem_nil)⟩)⟩)⟩⟩
set_option maxRecDepth 20000 in
theorem lw_ovX2_isLesserInner : ∀ w ∈ ovX2_isLesserInner, w ∈ lw_tbl := dk_memi [230, 232, 233, 234] (by decide +kernel)
set_option maxRecDepth 20000 in
theorem lw_vsX2_isLesserInner : ∀ w ∈ vsX2_isLesserInner, w ∈ lw_tbl := List.forall_mem_cons.mpr ⟨dk_memi (ws := [.code yX2_isLesserInner cX2_isLesserInner 5 (some .boolean)]) [587] (by decide +kernel) _ List.mem_cons_self, List.forall_mem_append.mpr ⟨lw_ovX2_isLesserInner, (List.forall_mem_append.mpr ⟨wl_X2, (fun _ h => absurd h List.not_mem_nil)⟩)⟩⟩
set_option maxRecDepth 20000 in
theorem lw_ovX2_setBetween : ∀ w ∈ ovX2_setBetween, w ∈ lw_tbl := dk_memi [225, 213, 206, 209, 562, 563, 564, 55, 566, 567, 568] (by decide +kernel)
set_option maxRecDepth 20000 in
theorem lw_vsX2_setBetween : ∀ w ∈ vsX2_setBetween, w ∈ lw_tbl := List.forall_mem_cons.mpr ⟨dk_memi (ws := [.code yX2_setBetween cX2_setBetween 9 (some .int)]) [577] (by decide +kernel) _ List.mem_cons_self, List.forall_mem_append.mpr ⟨lw_ovX2_setBetween, (List.forall_mem_append.mpr ⟨wl_X2, (List.forall_mem_append.mpr ⟨wl_X5, (List.forall_mem_append.mpr ⟨lw_vsX5_right, (List.forall_mem_append.mpr ⟨lw_vsX5_top, (fun _ h => absurd h List.not_mem_nil)⟩)⟩)⟩)⟩)⟩⟩
set_option maxRecDepth 20000 in
theorem lw_ovX2_considerInner : ∀ w ∈ ovX2_considerInner, w ∈ lw_tbl := dk_memi [225, 206, 209, 213, 229, 230, 232, 233, 234, 562, 563, 564, 55, 566, 567, 568, 574, 576, 14, 54, 578, 579, 60, 584, 586, 15] (by decide +kernel)
set_option maxRecDepth 20000 in
theorem lw_vsX2_considerInner : ∀ w ∈ vsX2_considerInner, w ∈ lw_tbl := List.forall_mem_cons.mpr ⟨dk_memi (ws := [.code yX2_considerInner cX2_considerInner 8 none]) [573] (by decide +kernel) _ List.mem_cons_self, List.forall_mem_append.mpr ⟨lw_ovX2_considerInner, (List.forall_mem_append.mpr ⟨wl_X2, (List.forall_mem_append.mpr ⟨wl_X5, (List.forall_mem_append.mpr ⟨lw_vsX5_right, (List.forall_mem_append.mpr ⟨lw_vsX5_top, (List.forall_mem_append.mpr ⟨lw_vsX2_setBetween, (List.forall_mem_append.mpr ⟨lw_vsJ6_bitCount_0f7a4, (List.forall_mem_append.mpr ⟨lw_vsX2_isLesserInner, (fun _ h => absurd h List.not_mem_nil)⟩)⟩)⟩)⟩)⟩)⟩)⟩)⟩⟩
set_option maxRecDepth 20000 in
theorem lw_ovX2_seekLeastInner : ∀ w ∈ ovX2_seekLeastInner, w ∈ lw_tbl := dk_memi [229, 230, 225, 213, 206, 209, 562, 563, 564, 55, 566, 567, 568, 570, 572, 13, 54] (by decide +kernel)
set_option maxRecDepth 20000 in
theorem lw_vsX2_seekLeastInner : ∀ w ∈ vsX2_seekLeastInner, w ∈ lw_tbl := List.forall_mem_cons.mpr ⟨dk_memi (ws := [.code yX2_seekLeastInner cX2_seekLeastInner 3 none]) [561] (by decide +kernel) _ List.mem_cons_self, List.forall_mem_append.mpr ⟨lw_ovX2_seekLeastInner, (List.forall_mem_append.mpr ⟨wl_X2, (List.forall_mem_append.mpr ⟨wl_X5, (List.forall_mem_append.mpr ⟨lw_vsX5_right, (List.forall_mem_append.mpr ⟨lw_vsX5_top, (List.forall_mem_append.mpr ⟨lw_vsX2_considerInner, (fun _ h => absurd h List.not_mem_nil)⟩)⟩)⟩)⟩)⟩)⟩⟩
set_option maxRecDepth 20000 in
theorem lw_ovX2_innerWire : ∀ w ∈ ovX2_innerWire, w ∈ lw_tbl := dk_memi [225, 213, 229, 227] (by decide +kernel)
set_option maxRecDepth 20000 in
theorem lw_vsX2_innerWire : ∀ w ∈ vsX2_innerWire, w ∈ lw_tbl := List.forall_mem_cons.mpr ⟨dk_memi (ws := [.code yX2_innerWire cX2_innerWire 4 (some .int)]) [607] (by decide +kernel) _ List.mem_cons_self, List.forall_mem_append.mpr ⟨lw_ovX2_innerWire, (List.forall_mem_append.mpr ⟨wl_X2, (List.forall_mem_append.mpr ⟨wl_X5, (fun _ h => absurd h List.not_mem_nil)⟩)⟩)⟩⟩
set_option maxRecDepth 20000 in
theorem lw_ovX6_knot : ∀ w ∈ ovX6_knot, w ∈ lw_tbl := dk_memi [271, 96, 297, 298, 299, 300, 51] (by decide +kernel)
set_option maxRecDepth 20000 in
theorem lw_vsX6_knot : ∀ w ∈ vsX6_knot, w ∈ lw_tbl := List.forall_mem_cons.mpr ⟨dk_memi (ws := [.code yX6_knot cX6_knot 1 (some .int)]) [296] (by decide +kernel) _ List.mem_cons_self, List.forall_mem_append.mpr ⟨lw_ovX6_knot, (List.forall_mem_append.mpr ⟨wl_X6, (List.forall_mem_append.mpr ⟨wl_X4, (List.forall_mem_append.mpr ⟨lw_vsX4_addKnot, (fun _ h => absurd h List.not_mem_nil)⟩)⟩)⟩)⟩⟩
set_option maxRecDepth 20000 in
theorem lw_ovX6_wire : ∀ w ∈ ovX6_wire, w ∈ lw_tbl := dk_memi [271, 297, 104, 306, 307, 308, 51, 310, 311, 312] (by decide +kernel)
set_option maxRecDepth 20000 in
theorem lw_vsX6_wire : ∀ w ∈ vsX6_wire, w ∈ lw_tbl := List.forall_mem_cons.mpr ⟨dk_memi (ws := [.code yX6_wire cX6_wire 3 (some .int)]) [305] (by decide +kernel) _ List.mem_cons_self, List.forall_mem_append.mpr ⟨lw_ovX6_wire, (List.forall_mem_append.mpr ⟨wl_X6, (List.forall_mem_append.mpr ⟨wl_X4, (List.forall_mem_append.mpr ⟨lw_vsX4_isKnot, (List.forall_mem_append.mpr ⟨lw_vsX4_addWire, (fun _ h => absurd h List.not_mem_nil)⟩)⟩)⟩)⟩)⟩⟩
set_option maxRecDepth 20000 in
theorem lw_ovX6_battery : ∀ w ∈ ovX6_battery, w ∈ lw_tbl := dk_memi [271, 297, 107, 86, 318, 319, 320, 51] (by decide +kernel)
set_option maxRecDepth 20000 in
theorem lw_vsX6_battery : ∀ w ∈ vsX6_battery, w ∈ lw_tbl := List.forall_mem_cons.mpr ⟨dk_memi (ws := [.code yX6_battery cX6_battery 3 (some .int)]) [317] (by decide +kernel) _ List.mem_cons_self, List.forall_mem_append.mpr ⟨lw_ovX6_battery, (List.forall_mem_append.mpr ⟨wl_X6, (List.forall_mem_append.mpr ⟨wl_X4, (List.forall_mem_append.mpr ⟨lw_vsX4_isWire, (fun _ h => absurd h List.not_mem_nil)⟩)⟩)⟩)⟩⟩
set_option maxRecDepth 20000 in
theorem lw_ovX6_cut : ∀ w ∈ ovX6_cut, w ∈ lw_tbl := dk_memi [271, 297, 107, 86, 318, 319, 320, 51] (by decide +kernel)
set_option maxRecDepth 20000 in
theorem lw_vsX6_cut : ∀ w ∈ vsX6_cut, w ∈ lw_tbl := List.forall_mem_cons.mpr ⟨dk_memi (ws := [.code yX6_cut cX6_cut 4 (some .int)]) [325] (by decide +kernel) _ List.mem_cons_self, List.forall_mem_append.mpr ⟨lw_ovX6_cut, (List.forall_mem_append.mpr ⟨wl_X6, (List.forall_mem_append.mpr ⟨wl_X4, (List.forall_mem_append.mpr ⟨lw_vsX4_isWire, (fun _ h => absurd h List.not_mem_nil)⟩)⟩)⟩)⟩⟩
set_option maxRecDepth 20000 in
theorem lw_ovX6_lay : ∀ w ∈ ovX6_lay, w ∈ lw_tbl := dk_memi [271, 297, 93, 306, 307, 308, 51, 318, 319, 320, 330, 331, 332, 334, 335, 336, 338, 339, 340] (by decide +kernel)
set_option maxRecDepth 20000 in
theorem lw_vsX6_lay : ∀ w ∈ vsX6_lay, w ∈ lw_tbl := List.forall_mem_cons.mpr ⟨dk_memi (ws := [.code yX6_lay cX6_lay 3 (some .int)]) [329] (by decide +kernel) _ List.mem_cons_self, List.forall_mem_append.mpr ⟨lw_ovX6_lay, (List.forall_mem_append.mpr ⟨wl_X6, (List.forall_mem_append.mpr ⟨wl_X4, (List.forall_mem_append.mpr ⟨lw_vsX4_isKnot, (List.forall_mem_append.mpr ⟨lw_vsX4_isWire, (List.forall_mem_append.mpr ⟨lw_vsX4_endsAt, (List.forall_mem_append.mpr ⟨lw_vsX4_spotInTurn, (List.forall_mem_append.mpr ⟨lw_vsX4_addToTurn, (fun _ h => absurd h List.not_mem_nil)⟩)⟩)⟩)⟩)⟩)⟩)⟩)⟩⟩
set_option maxRecDepth 20000 in
theorem lw_ovX6_bare : ∀ w ∈ ovX6_bare, w ∈ lw_tbl := dk_memi [271, 93, 297, 306, 307, 308, 51] (by decide +kernel)
set_option maxRecDepth 20000 in
theorem lw_vsX6_bare : ∀ w ∈ vsX6_bare, w ∈ lw_tbl := List.forall_mem_cons.mpr ⟨dk_memi (ws := [.code yX6_bare cX6_bare 3 (some .int)]) [345] (by decide +kernel) _ List.mem_cons_self, List.forall_mem_append.mpr ⟨lw_ovX6_bare, (List.forall_mem_append.mpr ⟨wl_X6, (List.forall_mem_append.mpr ⟨wl_X4, (List.forall_mem_append.mpr ⟨lw_vsX4_isKnot, (fun _ h => absurd h List.not_mem_nil)⟩)⟩)⟩)⟩⟩
set_option maxRecDepth 20000 in
theorem lw_ovX6_mirror : ∀ w ∈ ovX6_mirror, w ∈ lw_tbl := dk_memi [271, 96, 350, 351, 352, 51] (by decide +kernel)
set_option maxRecDepth 20000 in
theorem lw_vsX6_mirror : ∀ w ∈ vsX6_mirror, w ∈ lw_tbl := List.forall_mem_cons.mpr ⟨dk_memi (ws := [.code yX6_mirror cX6_mirror 2 (some .int)]) [349] (by decide +kernel) _ List.mem_cons_self, List.forall_mem_append.mpr ⟨lw_ovX6_mirror, (List.forall_mem_append.mpr ⟨wl_X6, (List.forall_mem_append.mpr ⟨wl_X4, (List.forall_mem_append.mpr ⟨lw_vsX4_reverseTurn, (fun _ h => absurd h List.not_mem_nil)⟩)⟩)⟩)⟩⟩
set_option maxRecDepth 20000 in
theorem lw_ovX6_findCause : ∀ w ∈ ovX6_findCause, w ∈ lw_tbl := dk_memi [271, 107, 273, 96, 143, 104, 362, 363, 364, 51, 367, 368, 369, 375, 376, 377, 52] (by decide +kernel)
set_option maxRecDepth 20000 in
theorem lw_vsX6_findCause : ∀ w ∈ vsX6_findCause, w ∈ lw_tbl := List.forall_mem_cons.mpr ⟨dk_memi (ws := [.code yX6_findCause cX6_findCause 1 (some .int)]) [361] (by decide +kernel) _ List.mem_cons_self, List.forall_mem_append.mpr ⟨lw_ovX6_findCause, (List.forall_mem_append.mpr ⟨wl_X6, (List.forall_mem_append.mpr ⟨wl_X4, (List.forall_mem_append.mpr ⟨wl_X0, (List.forall_mem_append.mpr ⟨lw_vsX4_hasWholeTurns, (List.forall_mem_append.mpr ⟨lw_vsX4_hangsTogether, (List.forall_mem_append.mpr ⟨lw_vsX0_trace, (fun _ h => absurd h List.not_mem_nil)⟩)⟩)⟩)⟩)⟩)⟩)⟩⟩
set_option maxRecDepth 20000 in
theorem lw_ovX6_about : ∀ w ∈ ovX6_about, w ∈ lw_tbl := dk_memi [297, 271, 273, 104, 143, 96, 358, 360, 0, 50, 392, 393, 394, 51, 396, 397, 398, 52, 408, 409, 410] (by decide +kernel)
set_option maxRecDepth 20000 in
theorem lw_vsX6_about : ∀ w ∈ vsX6_about, w ∈ lw_tbl := List.forall_mem_cons.mpr ⟨dk_memi (ws := [.code yX6_about cX6_about 1 (some .int)]) [357] (by decide +kernel) _ List.mem_cons_self, List.forall_mem_append.mpr ⟨lw_ovX6_about, (List.forall_mem_append.mpr ⟨wl_X6, (List.forall_mem_append.mpr ⟨wl_X4, (List.forall_mem_append.mpr ⟨wl_X0, (List.forall_mem_append.mpr ⟨lw_vsX6_findCause, (List.forall_mem_append.mpr ⟨lw_vsX4_hasCutWire, (List.forall_mem_append.mpr ⟨lw_vsX0_hasWireWithinOneFace, (List.forall_mem_append.mpr ⟨lw_vsX0_makeKnotsOfFaces, (fun _ h => absurd h List.not_mem_nil)⟩)⟩)⟩)⟩)⟩)⟩)⟩)⟩⟩
set_option maxRecDepth 20000 in
theorem lw_ovX6_clear : ∀ w ∈ ovX6_clear, w ∈ lw_tbl := dk_memi [271, 104, 422, 423, 424, 51] (by decide +kernel)
set_option maxRecDepth 20000 in
theorem lw_vsX6_clear : ∀ w ∈ vsX6_clear, w ∈ lw_tbl := List.forall_mem_cons.mpr ⟨dk_memi (ws := [.code yX6_clear cX6_clear 2 (some .int)]) [421] (by decide +kernel) _ List.mem_cons_self, List.forall_mem_append.mpr ⟨lw_ovX6_clear, (List.forall_mem_append.mpr ⟨wl_X6, (List.forall_mem_append.mpr ⟨wl_X4, (List.forall_mem_append.mpr ⟨lw_vsX4_makeEmpty, (fun _ h => absurd h List.not_mem_nil)⟩)⟩)⟩)⟩⟩
set_option maxRecDepth 20000 in
theorem lw_ovX6_cause : ∀ w ∈ ovX6_cause, w ∈ lw_tbl := dk_memi [358, 360, 0, 50] (by decide +kernel)
set_option maxRecDepth 20000 in
theorem lw_vsX6_cause : ∀ w ∈ vsX6_cause, w ∈ lw_tbl := List.forall_mem_cons.mpr ⟨dk_memi (ws := [.code yX6_cause cX6_cause 1 (some .int)]) [444] (by decide +kernel) _ List.mem_cons_self, List.forall_mem_append.mpr ⟨lw_ovX6_cause, (List.forall_mem_append.mpr ⟨lw_vsX6_findCause, (fun _ h => absurd h List.not_mem_nil)⟩)⟩⟩
set_option maxRecDepth 20000 in
theorem lw_ovX6_of : ∀ w ∈ ovX6_of, w ∈ lw_tbl := dk_memi [271, 79, 84, 107, 86, 297, 318, 319, 320, 51] (by decide +kernel)
set_option maxRecDepth 20000 in
theorem lw_vsX6_of : ∀ w ∈ vsX6_of, w ∈ lw_tbl := List.forall_mem_cons.mpr ⟨dk_memi (ws := [.code yX6_of cX6_of 3 (some .int)]) [448] (by decide +kernel) _ List.mem_cons_self, List.forall_mem_append.mpr ⟨lw_ovX6_of, (List.forall_mem_append.mpr ⟨wl_X6, (List.forall_mem_append.mpr ⟨wl_X4, (List.forall_mem_append.mpr ⟨lw_vsX4_isWire, (fun _ h => absurd h List.not_mem_nil)⟩)⟩)⟩)⟩⟩
set_option maxRecDepth 20000 in
theorem lw_ovX6_turn : ∀ w ∈ ovX6_turn, w ∈ lw_tbl := dk_memi [271, 93, 297, 306, 307, 308, 51, 453, 389, 390] (by decide +kernel)
set_option maxRecDepth 20000 in
theorem lw_vsX6_turn : ∀ w ∈ vsX6_turn, w ∈ lw_tbl := List.forall_mem_cons.mpr ⟨dk_memi (ws := [.code yX6_turn cX6_turn 3 (some .int)]) [452] (by decide +kernel) _ List.mem_cons_self, List.forall_mem_append.mpr ⟨lw_ovX6_turn, (List.forall_mem_append.mpr ⟨wl_X6, (List.forall_mem_append.mpr ⟨wl_X4, (List.forall_mem_append.mpr ⟨lw_vsX4_isKnot, (List.forall_mem_append.mpr ⟨lw_vsX4_wireInTurn, (fun _ h => absurd h List.not_mem_nil)⟩)⟩)⟩)⟩)⟩⟩
set_option maxRecDepth 20000 in
theorem lw_ovX6_faces : ∀ w ∈ ovX6_faces, w ∈ lw_tbl := dk_memi [271, 273, 143, 297, 362, 363, 364, 51, 375, 376, 377, 52] (by decide +kernel)
set_option maxRecDepth 20000 in
theorem lw_vsX6_faces : ∀ w ∈ vsX6_faces, w ∈ lw_tbl := List.forall_mem_cons.mpr ⟨dk_memi (ws := [.code yX6_faces cX6_faces 1 (some .int)]) [457] (by decide +kernel) _ List.mem_cons_self, List.forall_mem_append.mpr ⟨lw_ovX6_faces, (List.forall_mem_append.mpr ⟨wl_X6, (List.forall_mem_append.mpr ⟨wl_X0, (List.forall_mem_append.mpr ⟨lw_vsX4_hasWholeTurns, (List.forall_mem_append.mpr ⟨lw_vsX0_trace, (fun _ h => absurd h List.not_mem_nil)⟩)⟩)⟩)⟩)⟩⟩
set_option maxRecDepth 20000 in
theorem lw_ovX6_face : ∀ w ∈ ovX6_face, w ∈ lw_tbl := dk_memi [271, 297, 104, 273, 139, 362, 363, 364, 51, 375, 376, 377, 52] (by decide +kernel)
set_option maxRecDepth 20000 in
theorem lw_vsX6_face : ∀ w ∈ vsX6_face, w ∈ lw_tbl := List.forall_mem_cons.mpr ⟨dk_memi (ws := [.code yX6_face cX6_face 2 (some .int)]) [461] (by decide +kernel) _ List.mem_cons_self, List.forall_mem_append.mpr ⟨lw_ovX6_face, (List.forall_mem_append.mpr ⟨wl_X6, (List.forall_mem_append.mpr ⟨wl_X4, (List.forall_mem_append.mpr ⟨wl_X0, (List.forall_mem_append.mpr ⟨lw_vsX4_hasWholeTurns, (List.forall_mem_append.mpr ⟨lw_vsX0_trace, (fun _ h => absurd h List.not_mem_nil)⟩)⟩)⟩)⟩)⟩)⟩⟩
set_option maxRecDepth 20000 in
theorem lw_ovX6_letFlow : ∀ w ∈ ovX6_letFlow, w ∈ lw_tbl := dk_memi [274, 271, 273, 358, 360, 0, 50, 470, 471, 472, 53] (by decide +kernel)
set_option maxRecDepth 20000 in
theorem lw_vsX6_letFlow : ∀ w ∈ vsX6_letFlow, w ∈ lw_tbl := List.forall_mem_cons.mpr ⟨dk_memi (ws := [.code yX6_letFlow cX6_letFlow 1 (some .boolean)]) [469] (by decide +kernel) _ List.mem_cons_self, List.forall_mem_append.mpr ⟨lw_ovX6_letFlow, (List.forall_mem_append.mpr ⟨wl_X6, (List.forall_mem_append.mpr ⟨lw_vsX6_findCause, (List.forall_mem_append.mpr ⟨lw_vsX1_solve, (fun _ h => absurd h List.not_mem_nil)⟩)⟩)⟩)⟩⟩
set_option maxRecDepth 20000 in
theorem lw_ovX6_trees : ∀ w ∈ ovX6_trees, w ∈ lw_tbl := dk_memi [274, 173, 516, 466, 468, 3, 50] (by decide +kernel)
set_option maxRecDepth 20000 in
theorem lw_vsX6_trees : ∀ w ∈ vsX6_trees, w ∈ lw_tbl := List.forall_mem_cons.mpr ⟨dk_memi (ws := [.code yX6_trees cX6_trees 1 (some .long)]) [465] (by decide +kernel) _ List.mem_cons_self, List.forall_mem_append.mpr ⟨lw_ovX6_trees, (List.forall_mem_append.mpr ⟨wl_X6, (List.forall_mem_append.mpr ⟨wl_X1, (List.forall_mem_append.mpr ⟨lw_vsX6_letFlow, (fun _ h => absurd h List.not_mem_nil)⟩)⟩)⟩)⟩⟩
set_option maxRecDepth 20000 in
theorem lw_ovX6_current : ∀ w ∈ ovX6_current, w ∈ lw_tbl := dk_memi [271, 297, 274, 163, 318, 319, 320, 51, 466, 468, 3, 50] (by decide +kernel)
set_option maxRecDepth 20000 in
theorem lw_vsX6_current : ∀ w ∈ vsX6_current, w ∈ lw_tbl := List.forall_mem_cons.mpr ⟨dk_memi (ws := [.code yX6_current cX6_current 2 (some .int)]) [520] (by decide +kernel) _ List.mem_cons_self, List.forall_mem_append.mpr ⟨lw_ovX6_current, (List.forall_mem_append.mpr ⟨wl_X6, (List.forall_mem_append.mpr ⟨wl_X1, (List.forall_mem_append.mpr ⟨lw_vsX4_isWire, (List.forall_mem_append.mpr ⟨lw_vsX6_letFlow, (fun _ h => absurd h List.not_mem_nil)⟩)⟩)⟩)⟩)⟩⟩
set_option maxRecDepth 20000 in
theorem lw_ovX6_height : ∀ w ∈ ovX6_height, w ∈ lw_tbl := dk_memi [271, 297, 274, 160, 306, 307, 308, 51, 466, 468, 3, 50] (by decide +kernel)
set_option maxRecDepth 20000 in
theorem lw_vsX6_height : ∀ w ∈ vsX6_height, w ∈ lw_tbl := List.forall_mem_cons.mpr ⟨dk_memi (ws := [.code yX6_height cX6_height 2 (some .int)]) [524] (by decide +kernel) _ List.mem_cons_self, List.forall_mem_append.mpr ⟨lw_ovX6_height, (List.forall_mem_append.mpr ⟨wl_X6, (List.forall_mem_append.mpr ⟨wl_X1, (List.forall_mem_append.mpr ⟨lw_vsX4_isKnot, (List.forall_mem_append.mpr ⟨lw_vsX6_letFlow, (fun _ h => absurd h List.not_mem_nil)⟩)⟩)⟩)⟩)⟩⟩
set_option maxRecDepth 20000 in
theorem lw_ovX6_place : ∀ w ∈ ovX6_place, w ∈ lw_tbl := dk_memi [297, 273, 143, 274, 166, 466, 468, 3, 50] (by decide +kernel)
set_option maxRecDepth 20000 in
theorem lw_vsX6_place : ∀ w ∈ vsX6_place, w ∈ lw_tbl := List.forall_mem_cons.mpr ⟨dk_memi (ws := [.code yX6_place cX6_place 2 (some .int)]) [528] (by decide +kernel) _ List.mem_cons_self, List.forall_mem_append.mpr ⟨lw_ovX6_place, (List.forall_mem_append.mpr ⟨wl_X6, (List.forall_mem_append.mpr ⟨wl_X0, (List.forall_mem_append.mpr ⟨wl_X1, (List.forall_mem_append.mpr ⟨lw_vsX6_letFlow, (fun _ h => absurd h List.not_mem_nil)⟩)⟩)⟩)⟩)⟩⟩
set_option maxRecDepth 20000 in
theorem lw_ovX6_layOut : ∀ w ∈ ovX6_layOut, w ∈ lw_tbl := dk_memi [274, 271, 273, 275, 358, 360, 0, 50, 470, 471, 472, 53, 537, 538, 539, 54] (by decide +kernel)
set_option maxRecDepth 20000 in
theorem lw_vsX6_layOut : ∀ w ∈ vsX6_layOut, w ∈ lw_tbl := List.forall_mem_cons.mpr ⟨dk_memi (ws := [.code yX6_layOut cX6_layOut 1 (some .boolean)]) [536] (by decide +kernel) _ List.mem_cons_self, List.forall_mem_append.mpr ⟨lw_ovX6_layOut, (List.forall_mem_append.mpr ⟨wl_X6, (List.forall_mem_append.mpr ⟨lw_vsX6_findCause, (List.forall_mem_append.mpr ⟨lw_vsX1_solve, (List.forall_mem_append.mpr ⟨lw_vsX2_build, (fun _ h => absurd h List.not_mem_nil)⟩)⟩)⟩)⟩)⟩⟩
set_option maxRecDepth 20000 in
theorem lw_ovX6_rectangle : ∀ w ∈ ovX6_rectangle, w ∈ lw_tbl := dk_memi [274, 169, 171, 275, 226, 215, 231, 297, 533, 535, 12, 50, 554, 555, 556, 54, 558, 559, 560] (by decide +kernel)
set_option maxRecDepth 20000 in
theorem lw_vsX6_rectangle : ∀ w ∈ vsX6_rectangle, w ∈ lw_tbl := List.forall_mem_cons.mpr ⟨dk_memi (ws := [.code yX6_rectangle cX6_rectangle 2 (some .int)]) [532] (by decide +kernel) _ List.mem_cons_self, List.forall_mem_append.mpr ⟨lw_ovX6_rectangle, (List.forall_mem_append.mpr ⟨wl_X6, (List.forall_mem_append.mpr ⟨wl_X1, (List.forall_mem_append.mpr ⟨wl_X2, (List.forall_mem_append.mpr ⟨wl_X5, (List.forall_mem_append.mpr ⟨lw_vsX6_layOut, (List.forall_mem_append.mpr ⟨lw_vsX2_isPerfect, (List.forall_mem_append.mpr ⟨lw_vsX2_seekLeastInner, (fun _ h => absurd h List.not_mem_nil)⟩)⟩)⟩)⟩)⟩)⟩)⟩)⟩⟩
set_option maxRecDepth 20000 in
theorem lw_ovX6_square : ∀ w ∈ ovX6_square, w ∈ lw_tbl := dk_memi [271, 297, 275, 226, 318, 319, 320, 51, 533, 535, 12, 50, 592, 593, 594, 54, 596, 597, 598, 55] (by decide +kernel)
set_option maxRecDepth 20000 in
theorem lw_vsX6_square : ∀ w ∈ vsX6_square, w ∈ lw_tbl := List.forall_mem_cons.mpr ⟨dk_memi (ws := [.code yX6_square cX6_square 4 (some .int)]) [591] (by decide +kernel) _ List.mem_cons_self, List.forall_mem_append.mpr ⟨lw_ovX6_square, (List.forall_mem_append.mpr ⟨wl_X6, (List.forall_mem_append.mpr ⟨wl_X2, (List.forall_mem_append.mpr ⟨lw_vsX4_isWire, (List.forall_mem_append.mpr ⟨lw_vsX6_layOut, (List.forall_mem_append.mpr ⟨lw_vsX2_squareOfWire, (List.forall_mem_append.mpr ⟨lw_vsX5_tellOne, (fun _ h => absurd h List.not_mem_nil)⟩)⟩)⟩)⟩)⟩)⟩)⟩⟩
set_option maxRecDepth 20000 in
theorem lw_ovX6_within : ∀ w ∈ ovX6_within, w ∈ lw_tbl := dk_memi [275, 297, 533, 535, 12, 50, 558, 559, 560, 54, 604, 605, 606] (by decide +kernel)
set_option maxRecDepth 20000 in
theorem lw_vsX6_within : ∀ w ∈ vsX6_within, w ∈ lw_tbl := List.forall_mem_cons.mpr ⟨dk_memi (ws := [.code yX6_within cX6_within 2 (some .int)]) [603] (by decide +kernel) _ List.mem_cons_self, List.forall_mem_append.mpr ⟨lw_ovX6_within, (List.forall_mem_append.mpr ⟨wl_X6, (List.forall_mem_append.mpr ⟨lw_vsX6_layOut, (List.forall_mem_append.mpr ⟨lw_vsX2_seekLeastInner, (List.forall_mem_append.mpr ⟨lw_vsX2_innerWire, (fun _ h => absurd h List.not_mem_nil)⟩)⟩)⟩)⟩)⟩⟩
set_option maxRecDepth 20000 in
theorem lw_ovX6_at : ∀ w ∈ ovX6_at, w ∈ lw_tbl := dk_memi [275, 297, 533, 535, 12, 50, 612, 613, 614, 54] (by decide +kernel)
set_option maxRecDepth 20000 in
theorem lw_vsX6_at : ∀ w ∈ vsX6_at, w ∈ lw_tbl := List.forall_mem_cons.mpr ⟨dk_memi (ws := [.code yX6_at cX6_at 3 (some .int)]) [611] (by decide +kernel) _ List.mem_cons_self, List.forall_mem_append.mpr ⟨lw_ovX6_at, (List.forall_mem_append.mpr ⟨wl_X6, (List.forall_mem_append.mpr ⟨lw_vsX6_layOut, (List.forall_mem_append.mpr ⟨lw_vsX2_wireOnUnit, (fun _ h => absurd h List.not_mem_nil)⟩)⟩)⟩)⟩⟩
set_option maxRecDepth 20000 in
theorem lw_ovX6_tell : ∀ w ∈ ovX6_tell, w ∈ lw_tbl := dk_memi [276, 215, 297, 626, 627, 55, 630, 551, 552] (by decide +kernel)
set_option maxRecDepth 20000 in
theorem lw_vsX6_tell : ∀ w ∈ vsX6_tell, w ∈ lw_tbl := List.forall_mem_cons.mpr ⟨dk_memi (ws := [.code yX6_tell cX6_tell 4 (some .int)]) [625] (by decide +kernel) _ List.mem_cons_self, List.forall_mem_append.mpr ⟨lw_ovX6_tell, (List.forall_mem_append.mpr ⟨wl_X6, (List.forall_mem_append.mpr ⟨wl_X5, (List.forall_mem_append.mpr ⟨lw_vsX5_canBe, (List.forall_mem_append.mpr ⟨lw_vsX5_add, (fun _ h => absurd h List.not_mem_nil)⟩)⟩)⟩)⟩)⟩⟩
set_option maxRecDepth 20000 in
theorem lw_ovX6_alter : ∀ w ∈ ovX6_alter, w ∈ lw_tbl := dk_memi [297, 276, 215, 626, 627, 55, 596, 597, 598, 635, 636, 637] (by decide +kernel)
set_option maxRecDepth 20000 in
theorem lw_vsX6_alter : ∀ w ∈ vsX6_alter, w ∈ lw_tbl := List.forall_mem_cons.mpr ⟨dk_memi (ws := [.code yX6_alter cX6_alter 5 (some .int)]) [634] (by decide +kernel) _ List.mem_cons_self, List.forall_mem_append.mpr ⟨lw_ovX6_alter, (List.forall_mem_append.mpr ⟨wl_X6, (List.forall_mem_append.mpr ⟨wl_X5, (List.forall_mem_append.mpr ⟨lw_vsX5_canBe, (List.forall_mem_append.mpr ⟨lw_vsX5_tellOne, (List.forall_mem_append.mpr ⟨lw_vsX5_setOne, (fun _ h => absurd h List.not_mem_nil)⟩)⟩)⟩)⟩)⟩)⟩⟩
set_option maxRecDepth 20000 in
theorem lw_ovX6_hush : ∀ w ∈ ovX6_hush, w ∈ lw_tbl := dk_memi [276, 215] (by decide +kernel)
set_option maxRecDepth 20000 in
theorem lw_vsX6_hush : ∀ w ∈ vsX6_hush, w ∈ lw_tbl := List.forall_mem_cons.mpr ⟨dk_memi (ws := [.code yX6_hush cX6_hush 2 (some .int)]) [642] (by decide +kernel) _ List.mem_cons_self, List.forall_mem_append.mpr ⟨lw_ovX6_hush, (List.forall_mem_append.mpr ⟨wl_X6, (List.forall_mem_append.mpr ⟨wl_X5, (fun _ h => absurd h List.not_mem_nil)⟩)⟩)⟩⟩
set_option maxRecDepth 20000 in
theorem lw_ovX6_copy : ∀ w ∈ ovX6_copy, w ∈ lw_tbl := dk_memi [276, 275, 226, 215, 297, 533, 535, 12, 50, 647, 648, 649, 55] (by decide +kernel)
set_option maxRecDepth 20000 in
theorem lw_vsX6_copy : ∀ w ∈ vsX6_copy, w ∈ lw_tbl := List.forall_mem_cons.mpr ⟨dk_memi (ws := [.code yX6_copy cX6_copy 1 (some .int)]) [646] (by decide +kernel) _ List.mem_cons_self, List.forall_mem_append.mpr ⟨lw_ovX6_copy, (List.forall_mem_append.mpr ⟨wl_X6, (List.forall_mem_append.mpr ⟨wl_X2, (List.forall_mem_append.mpr ⟨wl_X5, (List.forall_mem_append.mpr ⟨lw_vsX6_layOut, (List.forall_mem_append.mpr ⟨lw_vsX5_takeFrom, (fun _ h => absurd h List.not_mem_nil)⟩)⟩)⟩)⟩)⟩)⟩⟩
set_option maxRecDepth 20000 in
theorem lw_ovX6_findFit : ∀ w ∈ ovX6_findFit, w ∈ lw_tbl := dk_memi [297, 660, 276, 215, 661, 662, 663, 55] (by decide +kernel)
set_option maxRecDepth 20000 in
theorem lw_vsX6_findFit : ∀ w ∈ vsX6_findFit, w ∈ lw_tbl := List.forall_mem_cons.mpr ⟨dk_memi (ws := [.code yX6_findFit cX6_findFit 3 (some .int)]) [659] (by decide +kernel) _ List.mem_cons_self, List.forall_mem_append.mpr ⟨lw_ovX6_findFit, (List.forall_mem_append.mpr ⟨wl_X6, (List.forall_mem_append.mpr ⟨wl_X5, (List.forall_mem_append.mpr ⟨lw_vsX5_findFault, (fun _ h => absurd h List.not_mem_nil)⟩)⟩)⟩)⟩⟩
set_option maxRecDepth 20000 in
theorem lw_ovX6_fit : ∀ w ∈ ovX6_fit, w ∈ lw_tbl := dk_memi [656, 658, 16, 50] (by decide +kernel)
set_option maxRecDepth 20000 in
theorem lw_vsX6_fit : ∀ w ∈ vsX6_fit, w ∈ lw_tbl := List.forall_mem_cons.mpr ⟨dk_memi (ws := [.code yX6_fit cX6_fit 3 (some .int)]) [655] (by decide +kernel) _ List.mem_cons_self, List.forall_mem_append.mpr ⟨lw_ovX6_fit, (List.forall_mem_append.mpr ⟨lw_vsX6_findFit, (fun _ h => absurd h List.not_mem_nil)⟩)⟩⟩
set_option maxRecDepth 20000 in
theorem lw_ovX6_read : ∀ w ∈ ovX6_read, w ∈ lw_tbl := dk_memi [277, 276, 263, 271, 96, 297, 656, 658, 16, 50, 677, 678, 679, 56, 696, 697, 698] (by decide +kernel)
set_option maxRecDepth 20000 in
theorem lw_vsX6_read : ∀ w ∈ vsX6_read, w ∈ lw_tbl := List.forall_mem_cons.mpr ⟨dk_memi (ws := [.code yX6_read cX6_read 3 (some .int)]) [676] (by decide +kernel) _ List.mem_cons_self, List.forall_mem_append.mpr ⟨lw_ovX6_read, (List.forall_mem_append.mpr ⟨wl_X6, (List.forall_mem_append.mpr ⟨wl_X3, (List.forall_mem_append.mpr ⟨wl_X4, (List.forall_mem_append.mpr ⟨lw_vsX6_findFit, (List.forall_mem_append.mpr ⟨lw_vsX3_find, (List.forall_mem_append.mpr ⟨lw_vsX3_makeNet, (fun _ h => absurd h List.not_mem_nil)⟩)⟩)⟩)⟩)⟩)⟩)⟩⟩
set_option maxRecDepth 20000 in
theorem lw_ovX6_canBeClaimed : ∀ w ∈ ovX6_canBeClaimed, w ∈ lw_tbl := dk_memi [716, 717] (by decide +kernel)
set_option maxRecDepth 20000 in
theorem lw_vsX6_canBeClaimed : ∀ w ∈ vsX6_canBeClaimed, w ∈ lw_tbl := List.forall_mem_cons.mpr ⟨dk_memi (ws := [.code yX6_canBeClaimed cX6_canBeClaimed 1 (some .boolean)]) [715] (by decide +kernel) _ List.mem_cons_self, List.forall_mem_append.mpr ⟨lw_ovX6_canBeClaimed, (fun _ h => absurd h List.not_mem_nil)⟩⟩
set_option maxRecDepth 20000 in
theorem lw_ovX6_claim : ∀ w ∈ ovX6_claim, w ∈ lw_tbl := dk_memi [271, 297, 89, 318, 319, 320, 51, 713, 714, 50] (by decide +kernel)
set_option maxRecDepth 20000 in
theorem lw_vsX6_claim : ∀ w ∈ vsX6_claim, w ∈ lw_tbl := List.forall_mem_cons.mpr ⟨dk_memi (ws := [.code yX6_claim cX6_claim 4 (some .int)]) [712] (by decide +kernel) _ List.mem_cons_self, List.forall_mem_append.mpr ⟨lw_ovX6_claim, (List.forall_mem_append.mpr ⟨wl_X6, (List.forall_mem_append.mpr ⟨wl_X4, (List.forall_mem_append.mpr ⟨lw_vsX4_isWire, (List.forall_mem_append.mpr ⟨lw_vsX6_canBeClaimed, (fun _ h => absurd h List.not_mem_nil)⟩)⟩)⟩)⟩)⟩⟩
set_option maxRecDepth 20000 in
theorem lw_ovX6_raise : ∀ w ∈ ovX6_raise, w ∈ lw_tbl := dk_memi [271, 297, 91, 306, 307, 308, 51, 713, 714, 50] (by decide +kernel)
set_option maxRecDepth 20000 in
theorem lw_vsX6_raise : ∀ w ∈ vsX6_raise, w ∈ lw_tbl := List.forall_mem_cons.mpr ⟨dk_memi (ws := [.code yX6_raise cX6_raise 4 (some .int)]) [721] (by decide +kernel) _ List.mem_cons_self, List.forall_mem_append.mpr ⟨lw_ovX6_raise, (List.forall_mem_append.mpr ⟨wl_X6, (List.forall_mem_append.mpr ⟨wl_X4, (List.forall_mem_append.mpr ⟨lw_vsX4_isKnot, (List.forall_mem_append.mpr ⟨lw_vsX6_canBeClaimed, (fun _ h => absurd h List.not_mem_nil)⟩)⟩)⟩)⟩)⟩⟩
set_option maxRecDepth 20000 in
theorem lw_ovX6_grant : ∀ w ∈ ovX6_grant, w ∈ lw_tbl := dk_memi [271, 104, 297, 89, 274, 163, 96, 91, 160, 466, 468, 3, 50] (by decide +kernel)
set_option maxRecDepth 20000 in
theorem lw_vsX6_grant : ∀ w ∈ vsX6_grant, w ∈ lw_tbl := List.forall_mem_cons.mpr ⟨dk_memi (ws := [.code yX6_grant cX6_grant 2 (some .int)]) [725] (by decide +kernel) _ List.mem_cons_self, List.forall_mem_append.mpr ⟨lw_ovX6_grant, (List.forall_mem_append.mpr ⟨wl_X6, (List.forall_mem_append.mpr ⟨wl_X4, (List.forall_mem_append.mpr ⟨wl_X1, (List.forall_mem_append.mpr ⟨lw_vsX6_letFlow, (fun _ h => absurd h List.not_mem_nil)⟩)⟩)⟩)⟩)⟩⟩
set_option maxRecDepth 20000 in
theorem lw_ovX6_judgeScale : ∀ w ∈ ovX6_judgeScale, w ∈ lw_tbl := dk_memi [271, 91, 84, 107, 79, 104, 89, 746, 497, 53] (by decide +kernel)
set_option maxRecDepth 20000 in
theorem lw_vsX6_judgeScale : ∀ w ∈ vsX6_judgeScale, w ∈ lw_tbl := List.forall_mem_cons.mpr ⟨dk_memi (ws := [.code yX6_judgeScale cX6_judgeScale 4 (some .int)]) [745] (by decide +kernel) _ List.mem_cons_self, List.forall_mem_append.mpr ⟨lw_ovX6_judgeScale, (List.forall_mem_append.mpr ⟨wl_X6, (List.forall_mem_append.mpr ⟨wl_X4, (List.forall_mem_append.mpr ⟨lw_vsX1_commonDivisor, (fun _ h => absurd h List.not_mem_nil)⟩)⟩)⟩)⟩⟩
set_option maxRecDepth 20000 in
theorem lw_ovX6_judge : ∀ w ∈ ovX6_judge, w ∈ lw_tbl := dk_memi [271, 297, 358, 360, 0, 50, 730, 731, 732, 51, 734, 735, 736, 742, 744, 20] (by decide +kernel)
set_option maxRecDepth 20000 in
theorem lw_vsX6_judge : ∀ w ∈ vsX6_judge, w ∈ lw_tbl := List.forall_mem_cons.mpr ⟨dk_memi (ws := [.code yX6_judge cX6_judge 3 (some .int)]) [729] (by decide +kernel) _ List.mem_cons_self, List.forall_mem_append.mpr ⟨lw_ovX6_judge, (List.forall_mem_append.mpr ⟨wl_X6, (List.forall_mem_append.mpr ⟨lw_vsX6_findCause, (List.forall_mem_append.mpr ⟨lw_vsX4_wireClaimedWrong, (List.forall_mem_append.mpr ⟨lw_vsX4_knotClaimedUneven, (List.forall_mem_append.mpr ⟨lw_vsX6_judgeScale, (fun _ h => absurd h List.not_mem_nil)⟩)⟩)⟩)⟩)⟩)⟩⟩
set_option maxRecDepth 20000 in
theorem lw_ovX6_count : ∀ w ∈ ovX6_count, w ∈ lw_tbl := dk_memi [271, 96, 104, 276, 215, 107, 297] (by decide +kernel)
set_option maxRecDepth 20000 in
theorem lw_vsX6_count : ∀ w ∈ vsX6_count, w ∈ lw_tbl := List.forall_mem_cons.mpr ⟨dk_memi (ws := [.code yX6_count cX6_count 2 (some .int)]) [750] (by decide +kernel) _ List.mem_cons_self, List.forall_mem_append.mpr ⟨lw_ovX6_count, (List.forall_mem_append.mpr ⟨wl_X6, (List.forall_mem_append.mpr ⟨wl_X4, (List.forall_mem_append.mpr ⟨wl_X5, (fun _ h => absurd h List.not_mem_nil)⟩)⟩)⟩)⟩⟩
set_option maxRecDepth 20000 in
theorem lw_ovX7_in : ∀ w ∈ ovX7_in, w ∈ lw_tbl := dk_memi [] (by decide +kernel)
set_option maxRecDepth 20000 in
theorem lw_vsX7_in : ∀ w ∈ vsX7_in, w ∈ lw_tbl := List.forall_mem_cons.mpr ⟨dk_memi (ws := [.code yX7_in cX7_in 3 (some .boolean)]) [893] (by decide +kernel) _ List.mem_cons_self, List.forall_mem_append.mpr ⟨lw_ovX7_in, (fun _ h => absurd h List.not_mem_nil)⟩⟩
set_option maxRecDepth 20000 in
theorem lw_ovX7_isKnot : ∀ w ∈ ovX7_isKnot, w ∈ lw_tbl := dk_memi [757, 891, 892, 57] (by decide +kernel)
set_option maxRecDepth 20000 in
theorem lw_vsX7_isKnot : ∀ w ∈ vsX7_isKnot, w ∈ lw_tbl := List.forall_mem_cons.mpr ⟨dk_memi (ws := [.code yX7_isKnot cX7_isKnot 2 (some .boolean)]) [890] (by decide +kernel) _ List.mem_cons_self, List.forall_mem_append.mpr ⟨lw_ovX7_isKnot, (List.forall_mem_append.mpr ⟨wl_X7, (List.forall_mem_append.mpr ⟨lw_vsX7_in, (fun _ h => absurd h List.not_mem_nil)⟩)⟩)⟩⟩
set_option maxRecDepth 20000 in
theorem lw_ovX7_isWire : ∀ w ∈ ovX7_isWire, w ∈ lw_tbl := dk_memi [758, 891, 892, 57] (by decide +kernel)
set_option maxRecDepth 20000 in
theorem lw_vsX7_isWire : ∀ w ∈ vsX7_isWire, w ∈ lw_tbl := List.forall_mem_cons.mpr ⟨dk_memi (ws := [.code yX7_isWire cX7_isWire 2 (some .boolean)]) [901] (by decide +kernel) _ List.mem_cons_self, List.forall_mem_append.mpr ⟨lw_ovX7_isWire, (List.forall_mem_append.mpr ⟨wl_X7, (List.forall_mem_append.mpr ⟨lw_vsX7_in, (fun _ h => absurd h List.not_mem_nil)⟩)⟩)⟩⟩
set_option maxRecDepth 20000 in
theorem lw_ovX7_isPlain : ∀ w ∈ ovX7_isPlain, w ∈ lw_tbl := dk_memi [759, 762] (by decide +kernel)
set_option maxRecDepth 20000 in
theorem lw_vsX7_isPlain : ∀ w ∈ vsX7_isPlain, w ∈ lw_tbl := List.forall_mem_cons.mpr ⟨dk_memi (ws := [.code yX7_isPlain cX7_isPlain 2 (some .boolean)]) [957] (by decide +kernel) _ List.mem_cons_self, List.forall_mem_append.mpr ⟨lw_ovX7_isPlain, (List.forall_mem_append.mpr ⟨wl_X7, (fun _ h => absurd h List.not_mem_nil)⟩)⟩⟩
set_option maxRecDepth 20000 in
theorem lw_ovX7_knot : ∀ w ∈ ovX7_knot, w ∈ lw_tbl := dk_memi [757, 764, 766, 882] (by decide +kernel)
set_option maxRecDepth 20000 in
theorem lw_vsX7_knot : ∀ w ∈ vsX7_knot, w ∈ lw_tbl := List.forall_mem_cons.mpr ⟨dk_memi (ws := [.code yX7_knot cX7_knot 1 (some .int)]) [881] (by decide +kernel) _ List.mem_cons_self, List.forall_mem_append.mpr ⟨lw_ovX7_knot, (List.forall_mem_append.mpr ⟨wl_X7, (fun _ h => absurd h List.not_mem_nil)⟩)⟩⟩
set_option maxRecDepth 20000 in
theorem lw_ovX7_wire : ∀ w ∈ ovX7_wire, w ∈ lw_tbl := dk_memi [882, 758, 760, 761, 762, 765, 887, 889, 21, 57] (by decide +kernel)
set_option maxRecDepth 20000 in
theorem lw_vsX7_wire : ∀ w ∈ vsX7_wire, w ∈ lw_tbl := List.forall_mem_cons.mpr ⟨dk_memi (ws := [.code yX7_wire cX7_wire 3 (some .int)]) [886] (by decide +kernel) _ List.mem_cons_self, List.forall_mem_append.mpr ⟨lw_ovX7_wire, (List.forall_mem_append.mpr ⟨wl_X7, (List.forall_mem_append.mpr ⟨lw_vsX7_isKnot, (fun _ h => absurd h List.not_mem_nil)⟩)⟩)⟩⟩
set_option maxRecDepth 20000 in
theorem lw_ovX7_battery : ∀ w ∈ ovX7_battery, w ∈ lw_tbl := dk_memi [882, 759, 762, 898, 900, 22, 57] (by decide +kernel)
set_option maxRecDepth 20000 in
theorem lw_vsX7_battery : ∀ w ∈ vsX7_battery, w ∈ lw_tbl := List.forall_mem_cons.mpr ⟨dk_memi (ws := [.code yX7_battery cX7_battery 3 (some .int)]) [897] (by decide +kernel) _ List.mem_cons_self, List.forall_mem_append.mpr ⟨lw_ovX7_battery, (List.forall_mem_append.mpr ⟨wl_X7, (List.forall_mem_append.mpr ⟨lw_vsX7_isWire, (fun _ h => absurd h List.not_mem_nil)⟩)⟩)⟩⟩
set_option maxRecDepth 20000 in
theorem lw_ovX7_cut : ∀ w ∈ ovX7_cut, w ∈ lw_tbl := dk_memi [882, 759, 762, 898, 900, 22, 57] (by decide +kernel)
set_option maxRecDepth 20000 in
theorem lw_vsX7_cut : ∀ w ∈ vsX7_cut, w ∈ lw_tbl := List.forall_mem_cons.mpr ⟨dk_memi (ws := [.code yX7_cut cX7_cut 4 (some .int)]) [905] (by decide +kernel) _ List.mem_cons_self, List.forall_mem_append.mpr ⟨lw_ovX7_cut, (List.forall_mem_append.mpr ⟨wl_X7, (List.forall_mem_append.mpr ⟨lw_vsX7_isWire, (fun _ h => absurd h List.not_mem_nil)⟩)⟩)⟩⟩
set_option maxRecDepth 20000 in
theorem lw_ovX7_placeIn : ∀ w ∈ ovX7_placeIn, w ∈ lw_tbl := dk_memi [764, 763] (by decide +kernel)
set_option maxRecDepth 20000 in
theorem lw_vsX7_placeIn : ∀ w ∈ vsX7_placeIn, w ∈ lw_tbl := List.forall_mem_cons.mpr ⟨dk_memi (ws := [.code yX7_placeIn cX7_placeIn 4 (some .int)]) [913] (by decide +kernel) _ List.mem_cons_self, List.forall_mem_append.mpr ⟨lw_ovX7_placeIn, (List.forall_mem_append.mpr ⟨wl_X7, (fun _ h => absurd h List.not_mem_nil)⟩)⟩⟩
set_option maxRecDepth 20000 in
theorem lw_ovX7_lay : ∀ w ∈ ovX7_lay, w ∈ lw_tbl := dk_memi [882, 760, 761, 763, 764, 887, 889, 21, 57, 898, 900, 22, 910, 912, 23] (by decide +kernel)
set_option maxRecDepth 20000 in
theorem lw_vsX7_lay : ∀ w ∈ vsX7_lay, w ∈ lw_tbl := List.forall_mem_cons.mpr ⟨dk_memi (ws := [.code yX7_lay cX7_lay 3 (some .int)]) [909] (by decide +kernel) _ List.mem_cons_self, List.forall_mem_append.mpr ⟨lw_ovX7_lay, (List.forall_mem_append.mpr ⟨wl_X7, (List.forall_mem_append.mpr ⟨lw_vsX7_isKnot, (List.forall_mem_append.mpr ⟨lw_vsX7_isWire, (List.forall_mem_append.mpr ⟨lw_vsX7_placeIn, (fun _ h => absurd h List.not_mem_nil)⟩)⟩)⟩)⟩)⟩⟩
set_option maxRecDepth 20000 in
theorem lw_ovX7_bare : ∀ w ∈ ovX7_bare, w ∈ lw_tbl := dk_memi [764, 882, 887, 889, 21, 57] (by decide +kernel)
set_option maxRecDepth 20000 in
theorem lw_vsX7_bare : ∀ w ∈ vsX7_bare, w ∈ lw_tbl := List.forall_mem_cons.mpr ⟨dk_memi (ws := [.code yX7_bare cX7_bare 3 (some .int)]) [917] (by decide +kernel) _ List.mem_cons_self, List.forall_mem_append.mpr ⟨lw_ovX7_bare, (List.forall_mem_append.mpr ⟨wl_X7, (List.forall_mem_append.mpr ⟨lw_vsX7_isKnot, (fun _ h => absurd h List.not_mem_nil)⟩)⟩)⟩⟩
set_option maxRecDepth 20000 in
theorem lw_ovX7_mirror : ∀ w ∈ ovX7_mirror, w ∈ lw_tbl := dk_memi [757, 764, 763] (by decide +kernel)
set_option maxRecDepth 20000 in
theorem lw_vsX7_mirror : ∀ w ∈ vsX7_mirror, w ∈ lw_tbl := List.forall_mem_cons.mpr ⟨dk_memi (ws := [.code yX7_mirror cX7_mirror 5 (some .int)]) [921] (by decide +kernel) _ List.mem_cons_self, List.forall_mem_append.mpr ⟨lw_ovX7_mirror, (List.forall_mem_append.mpr ⟨wl_X7, (fun _ h => absurd h List.not_mem_nil)⟩)⟩⟩
set_option maxRecDepth 20000 in
theorem lw_ovX7_clear : ∀ w ∈ ovX7_clear, w ∈ lw_tbl := dk_memi [758, 757, 759] (by decide +kernel)
set_option maxRecDepth 20000 in
theorem lw_vsX7_clear : ∀ w ∈ vsX7_clear, w ∈ lw_tbl := List.forall_mem_cons.mpr ⟨dk_memi (ws := [.code yX7_clear cX7_clear 2 (some .int)]) [925] (by decide +kernel) _ List.mem_cons_self, List.forall_mem_append.mpr ⟨lw_ovX7_clear, (List.forall_mem_append.mpr ⟨wl_X7, (fun _ h => absurd h List.not_mem_nil)⟩)⟩⟩
set_option maxRecDepth 20000 in
theorem lw_ovX7_keep : ∀ w ∈ ovX7_keep, w ∈ lw_tbl := dk_memi [767, 757, 768, 758, 769, 759, 770, 771, 760, 772, 761, 777, 762, 775, 765, 774, 764, 776, 766, 773, 763] (by decide +kernel)
set_option maxRecDepth 20000 in
theorem lw_vsX7_keep : ∀ w ∈ vsX7_keep, w ∈ lw_tbl := List.forall_mem_cons.mpr ⟨dk_memi (ws := [.code yX7_keep cX7_keep 2 (some .int)]) [929] (by decide +kernel) _ List.mem_cons_self, List.forall_mem_append.mpr ⟨lw_ovX7_keep, (List.forall_mem_append.mpr ⟨wl_X7, (fun _ h => absurd h List.not_mem_nil)⟩)⟩⟩
set_option maxRecDepth 20000 in
theorem lw_ovX7_back : ∀ w ∈ ovX7_back, w ∈ lw_tbl := dk_memi [767, 768, 757, 769, 758, 770, 759, 882, 760, 771, 761, 772, 762, 777, 765, 775, 764, 774, 766, 776, 763, 773] (by decide +kernel)
set_option maxRecDepth 20000 in
theorem lw_vsX7_back : ∀ w ∈ vsX7_back, w ∈ lw_tbl := List.forall_mem_cons.mpr ⟨dk_memi (ws := [.code yX7_back cX7_back 2 (some .int)]) [933] (by decide +kernel) _ List.mem_cons_self, List.forall_mem_append.mpr ⟨lw_ovX7_back, (List.forall_mem_append.mpr ⟨wl_X7, (fun _ h => absurd h List.not_mem_nil)⟩)⟩⟩
set_option maxRecDepth 20000 in
theorem lw_ovX7_areTurns : ∀ w ∈ ovX7_areTurns, w ∈ lw_tbl := dk_memi [757, 764, 758, 760, 761] (by decide +kernel)
set_option maxRecDepth 20000 in
theorem lw_vsX7_areTurns : ∀ w ∈ vsX7_areTurns, w ∈ lw_tbl := List.forall_mem_cons.mpr ⟨dk_memi (ws := [.code yX7_areTurns cX7_areTurns 4 (some .boolean)]) [949] (by decide +kernel) _ List.mem_cons_self, List.forall_mem_append.mpr ⟨lw_ovX7_areTurns, (List.forall_mem_append.mpr ⟨wl_X7, (fun _ h => absurd h List.not_mem_nil)⟩)⟩⟩
set_option maxRecDepth 20000 in
theorem lw_ovX7_comesTo : ∀ w ∈ ovX7_comesTo, w ∈ lw_tbl := dk_memi [760, 761] (by decide +kernel)
set_option maxRecDepth 20000 in
theorem lw_vsX7_comesTo : ∀ w ∈ vsX7_comesTo, w ∈ lw_tbl := List.forall_mem_cons.mpr ⟨dk_memi (ws := [.code yX7_comesTo cX7_comesTo 2 (some .int)]) [969] (by decide +kernel) _ List.mem_cons_self, List.forall_mem_append.mpr ⟨lw_ovX7_comesTo, (List.forall_mem_append.mpr ⟨wl_X7, (fun _ h => absurd h List.not_mem_nil)⟩)⟩⟩
set_option maxRecDepth 20000 in
theorem lw_ovX7_behind : ∀ w ∈ ovX7_behind, w ∈ lw_tbl := dk_memi [763, 764, 760, 966, 968, 31, 57, 910, 912, 23] (by decide +kernel)
set_option maxRecDepth 20000 in
theorem lw_vsX7_behind : ∀ w ∈ vsX7_behind, w ∈ lw_tbl := List.forall_mem_cons.mpr ⟨dk_memi (ws := [.code yX7_behind cX7_behind 5 (some .int)]) [965] (by decide +kernel) _ List.mem_cons_self, List.forall_mem_append.mpr ⟨lw_ovX7_behind, (List.forall_mem_append.mpr ⟨wl_X7, (List.forall_mem_append.mpr ⟨lw_vsX7_comesTo, (List.forall_mem_append.mpr ⟨lw_vsX7_placeIn, (fun _ h => absurd h List.not_mem_nil)⟩)⟩)⟩)⟩⟩
set_option maxRecDepth 20000 in
theorem lw_ovX7_goAlong : ∀ w ∈ ovX7_goAlong, w ∈ lw_tbl := dk_memi [783, 782, 758, 962, 964, 30, 57] (by decide +kernel)
set_option maxRecDepth 20000 in
theorem lw_vsX7_goAlong : ∀ w ∈ vsX7_goAlong, w ∈ lw_tbl := List.forall_mem_cons.mpr ⟨dk_memi (ws := [.code yX7_goAlong cX7_goAlong 3 none]) [961] (by decide +kernel) _ List.mem_cons_self, List.forall_mem_append.mpr ⟨lw_ovX7_goAlong, (List.forall_mem_append.mpr ⟨wl_X7, (List.forall_mem_append.mpr ⟨lw_vsX7_behind, (fun _ h => absurd h List.not_mem_nil)⟩)⟩)⟩⟩
set_option maxRecDepth 20000 in
theorem lw_ovX7_hang : ∀ w ∈ ovX7_hang, w ∈ lw_tbl := dk_memi [757, 758, 760, 761, 954, 956, 28, 57] (by decide +kernel)
set_option maxRecDepth 20000 in
theorem lw_vsX7_hang : ∀ w ∈ vsX7_hang, w ∈ lw_tbl := List.forall_mem_cons.mpr ⟨dk_memi (ws := [.code yX7_hang cX7_hang 5 (some .boolean)]) [953] (by decide +kernel) _ List.mem_cons_self, List.forall_mem_append.mpr ⟨lw_ovX7_hang, (List.forall_mem_append.mpr ⟨wl_X7, (List.forall_mem_append.mpr ⟨lw_vsX7_isPlain, (fun _ h => absurd h List.not_mem_nil)⟩)⟩)⟩⟩
set_option maxRecDepth 20000 in
theorem lw_ovX7_causeOf : ∀ w ∈ ovX7_causeOf, w ∈ lw_tbl := dk_memi [759, 757, 783, 758, 946, 948, 26, 57, 950, 952, 27, 958, 960, 29] (by decide +kernel)
set_option maxRecDepth 20000 in
theorem lw_vsX7_causeOf : ∀ w ∈ vsX7_causeOf, w ∈ lw_tbl := List.forall_mem_cons.mpr ⟨dk_memi (ws := [.code yX7_causeOf cX7_causeOf 1 (some .int)]) [945] (by decide +kernel) _ List.mem_cons_self, List.forall_mem_append.mpr ⟨lw_ovX7_causeOf, (List.forall_mem_append.mpr ⟨wl_X7, (List.forall_mem_append.mpr ⟨lw_vsX7_areTurns, (List.forall_mem_append.mpr ⟨lw_vsX7_hang, (List.forall_mem_append.mpr ⟨lw_vsX7_goAlong, (fun _ h => absurd h List.not_mem_nil)⟩)⟩)⟩)⟩)⟩⟩
set_option maxRecDepth 20000 in
theorem lw_ovX7_determinant : ∀ w ∈ ovX7_determinant, w ∈ lw_tbl := dk_memi [784] (by decide +kernel)
set_option maxRecDepth 20000 in
theorem lw_vsX7_determinant : ∀ w ∈ vsX7_determinant, w ∈ lw_tbl := List.forall_mem_cons.mpr ⟨dk_memi (ws := [.code yX7_determinant cX7_determinant 10 (some .long)]) [981] (by decide +kernel) _ List.mem_cons_self, List.forall_mem_append.mpr ⟨lw_ovX7_determinant, (List.forall_mem_append.mpr ⟨wl_X7, (fun _ h => absurd h List.not_mem_nil)⟩)⟩⟩
set_option maxRecDepth 20000 in
theorem lw_ovX7_between : ∀ w ∈ ovX7_between, w ∈ lw_tbl := dk_memi [758, 760, 761, 954, 956, 28, 57] (by decide +kernel)
set_option maxRecDepth 20000 in
theorem lw_vsX7_between : ∀ w ∈ vsX7_between, w ∈ lw_tbl := List.forall_mem_cons.mpr ⟨dk_memi (ws := [.code yX7_between cX7_between 6 (some .int)]) [977] (by decide +kernel) _ List.mem_cons_self, List.forall_mem_append.mpr ⟨lw_ovX7_between, (List.forall_mem_append.mpr ⟨wl_X7, (List.forall_mem_append.mpr ⟨lw_vsX7_isPlain, (fun _ h => absurd h List.not_mem_nil)⟩)⟩)⟩⟩
set_option maxRecDepth 20000 in
theorem lw_ovX7_minor : ∀ w ∈ ovX7_minor, w ∈ lw_tbl := dk_memi [761, 759, 757, 784, 978, 980, 34, 57, 974, 976, 33] (by decide +kernel)
set_option maxRecDepth 20000 in
theorem lw_vsX7_minor : ∀ w ∈ vsX7_minor, w ∈ lw_tbl := List.forall_mem_cons.mpr ⟨dk_memi (ws := [.code yX7_minor cX7_minor 8 (some .long)]) [973] (by decide +kernel) _ List.mem_cons_self, List.forall_mem_append.mpr ⟨lw_ovX7_minor, (List.forall_mem_append.mpr ⟨wl_X7, (List.forall_mem_append.mpr ⟨lw_vsX7_determinant, (List.forall_mem_append.mpr ⟨lw_vsX7_between, (fun _ h => absurd h List.not_mem_nil)⟩)⟩)⟩)⟩⟩
set_option maxRecDepth 20000 in
theorem lw_ovX7_common : ∀ w ∈ ovX7_common, w ∈ lw_tbl := dk_memi [] (by decide +kernel)
set_option maxRecDepth 20000 in
theorem lw_vsX7_common : ∀ w ∈ vsX7_common, w ∈ lw_tbl := List.forall_mem_cons.mpr ⟨dk_memi (ws := [.code yX7_common cX7_common 10 (some .long)]) [984] (by decide +kernel) _ List.mem_cons_self, List.forall_mem_append.mpr ⟨lw_ovX7_common, (fun _ h => absurd h List.not_mem_nil)⟩⟩
set_option maxRecDepth 20000 in
theorem lw_ovX7_placed : ∀ w ∈ ovX7_placed, w ∈ lw_tbl := dk_memi [787, 782, 759, 882, 758, 786] (by decide +kernel)
set_option maxRecDepth 20000 in
theorem lw_vsX7_placed : ∀ w ∈ vsX7_placed, w ∈ lw_tbl := List.forall_mem_cons.mpr ⟨dk_memi (ws := [.code yX7_placed cX7_placed 5 none]) [988] (by decide +kernel) _ List.mem_cons_self, List.forall_mem_append.mpr ⟨lw_ovX7_placed, (List.forall_mem_append.mpr ⟨wl_X7, (fun _ h => absurd h List.not_mem_nil)⟩)⟩⟩
set_option maxRecDepth 20000 in
theorem lw_ovX7_flows : ∀ w ∈ ovX7_flows, w ∈ lw_tbl := dk_memi [760, 759, 761, 788, 789, 785, 790, 757, 758, 786, 942, 944, 25, 57, 970, 972, 32, 985, 987, 35, 954, 956, 28, 982, 983] (by decide +kernel)
set_option maxRecDepth 20000 in
theorem lw_vsX7_flows : ∀ w ∈ vsX7_flows, w ∈ lw_tbl := List.forall_mem_cons.mpr ⟨dk_memi (ws := [.code yX7_flows cX7_flows 9 (some .boolean)]) [941] (by decide +kernel) _ List.mem_cons_self, List.forall_mem_append.mpr ⟨lw_ovX7_flows, (List.forall_mem_append.mpr ⟨wl_X7, (List.forall_mem_append.mpr ⟨lw_vsX7_causeOf, (List.forall_mem_append.mpr ⟨lw_vsX7_minor, (List.forall_mem_append.mpr ⟨lw_vsX7_placed, (List.forall_mem_append.mpr ⟨lw_vsX7_isPlain, (List.forall_mem_append.mpr ⟨lw_vsX7_common, (fun _ h => absurd h List.not_mem_nil)⟩)⟩)⟩)⟩)⟩)⟩)⟩⟩
set_option maxRecDepth 20000 in
theorem lw_ovX7_isSquare : ∀ w ∈ ovX7_isSquare, w ∈ lw_tbl := dk_memi [786, 954, 956, 28, 57] (by decide +kernel)
set_option maxRecDepth 20000 in
theorem lw_vsX7_isSquare : ∀ w ∈ vsX7_isSquare, w ∈ lw_tbl := List.forall_mem_cons.mpr ⟨dk_memi (ws := [.code yX7_isSquare cX7_isSquare 2 (some .boolean)]) [1037] (by decide +kernel) _ List.mem_cons_self, List.forall_mem_append.mpr ⟨lw_ovX7_isSquare, (List.forall_mem_append.mpr ⟨wl_X7, (List.forall_mem_append.mpr ⟨lw_vsX7_isPlain, (fun _ h => absurd h List.not_mem_nil)⟩)⟩)⟩⟩
set_option maxRecDepth 20000 in
theorem lw_ovX7_sideOf : ∀ w ∈ ovX7_sideOf, w ∈ lw_tbl := dk_memi [786] (by decide +kernel)
set_option maxRecDepth 20000 in
theorem lw_vsX7_sideOf : ∀ w ∈ vsX7_sideOf, w ∈ lw_tbl := List.forall_mem_cons.mpr ⟨dk_memi (ws := [.code yX7_sideOf cX7_sideOf 2 (some .int)]) [1045] (by decide +kernel) _ List.mem_cons_self, List.forall_mem_append.mpr ⟨lw_ovX7_sideOf, (List.forall_mem_append.mpr ⟨wl_X7, (fun _ h => absurd h List.not_mem_nil)⟩)⟩⟩
set_option maxRecDepth 20000 in
theorem lw_ovX7_leftOf : ∀ w ∈ ovX7_leftOf, w ∈ lw_tbl := dk_memi [787, 782] (by decide +kernel)
set_option maxRecDepth 20000 in
theorem lw_vsX7_leftOf : ∀ w ∈ vsX7_leftOf, w ∈ lw_tbl := List.forall_mem_cons.mpr ⟨dk_memi (ws := [.code yX7_leftOf cX7_leftOf 4 (some .int)]) [1053] (by decide +kernel) _ List.mem_cons_self, List.forall_mem_append.mpr ⟨lw_ovX7_leftOf, (List.forall_mem_append.mpr ⟨wl_X7, (fun _ h => absurd h List.not_mem_nil)⟩)⟩⟩
set_option maxRecDepth 20000 in
theorem lw_ovX7_lowOf : ∀ w ∈ ovX7_lowOf, w ∈ lw_tbl := dk_memi [785, 760, 761] (by decide +kernel)
set_option maxRecDepth 20000 in
theorem lw_vsX7_lowOf : ∀ w ∈ vsX7_lowOf, w ∈ lw_tbl := List.forall_mem_cons.mpr ⟨dk_memi (ws := [.code yX7_lowOf cX7_lowOf 4 (some .int)]) [1057] (by decide +kernel) _ List.mem_cons_self, List.forall_mem_append.mpr ⟨lw_ovX7_lowOf, (List.forall_mem_append.mpr ⟨wl_X7, (fun _ h => absurd h List.not_mem_nil)⟩)⟩⟩
set_option maxRecDepth 20000 in
theorem lw_ovX7_squares : ∀ w ∈ ovX7_squares, w ∈ lw_tbl := dk_memi [758, 1034, 1036, 37, 57] (by decide +kernel)
set_option maxRecDepth 20000 in
theorem lw_vsX7_squares : ∀ w ∈ vsX7_squares, w ∈ lw_tbl := List.forall_mem_cons.mpr ⟨dk_memi (ws := [.code yX7_squares cX7_squares 3 (some .int)]) [1033] (by decide +kernel) _ List.mem_cons_self, List.forall_mem_append.mpr ⟨lw_ovX7_squares, (List.forall_mem_append.mpr ⟨wl_X7, (List.forall_mem_append.mpr ⟨lw_vsX7_isSquare, (fun _ h => absurd h List.not_mem_nil)⟩)⟩)⟩⟩
set_option maxRecDepth 20000 in
theorem lw_ovX7_isPerfect : ∀ w ∈ ovX7_isPerfect, w ∈ lw_tbl := dk_memi [758, 786, 954, 956, 28, 57, 1034, 1036, 37, 1042, 1044, 39] (by decide +kernel)
set_option maxRecDepth 20000 in
theorem lw_vsX7_isPerfect : ∀ w ∈ vsX7_isPerfect, w ∈ lw_tbl := List.forall_mem_cons.mpr ⟨dk_memi (ws := [.code yX7_isPerfect cX7_isPerfect 3 (some .boolean)]) [1041] (by decide +kernel) _ List.mem_cons_self, List.forall_mem_append.mpr ⟨lw_ovX7_isPerfect, (List.forall_mem_append.mpr ⟨wl_X7, (List.forall_mem_append.mpr ⟨lw_vsX7_isPlain, (List.forall_mem_append.mpr ⟨lw_vsX7_isSquare, (List.forall_mem_append.mpr ⟨lw_vsX7_sideOf, (fun _ h => absurd h List.not_mem_nil)⟩)⟩)⟩)⟩)⟩⟩
set_option maxRecDepth 20000 in
theorem lw_ovX7_inside : ∀ w ∈ ovX7_inside, w ∈ lw_tbl := dk_memi [758, 1034, 1036, 37, 57, 1050, 1052, 41, 1054, 1056, 42, 1042, 1044, 39] (by decide +kernel)
set_option maxRecDepth 20000 in
theorem lw_vsX7_inside : ∀ w ∈ vsX7_inside, w ∈ lw_tbl := List.forall_mem_cons.mpr ⟨dk_memi (ws := [.code yX7_inside cX7_inside 10 (some .int)]) [1061] (by decide +kernel) _ List.mem_cons_self, List.forall_mem_append.mpr ⟨lw_ovX7_inside, (List.forall_mem_append.mpr ⟨wl_X7, (List.forall_mem_append.mpr ⟨lw_vsX7_isSquare, (List.forall_mem_append.mpr ⟨lw_vsX7_leftOf, (List.forall_mem_append.mpr ⟨lw_vsX7_lowOf, (List.forall_mem_append.mpr ⟨lw_vsX7_sideOf, (fun _ h => absurd h List.not_mem_nil)⟩)⟩)⟩)⟩)⟩)⟩⟩
set_option maxRecDepth 20000 in
theorem lw_ovX7_ones : ∀ w ∈ ovX7_ones, w ∈ lw_tbl := dk_memi [758] (by decide +kernel)
set_option maxRecDepth 20000 in
theorem lw_vsX7_ones : ∀ w ∈ vsX7_ones, w ∈ lw_tbl := List.forall_mem_cons.mpr ⟨dk_memi (ws := [.code yX7_ones cX7_ones 4 (some .int)]) [1065] (by decide +kernel) _ List.mem_cons_self, List.forall_mem_append.mpr ⟨lw_ovX7_ones, (List.forall_mem_append.mpr ⟨wl_X7, (fun _ h => absurd h List.not_mem_nil)⟩)⟩⟩
set_option maxRecDepth 20000 in
theorem lw_ovX7_inner : ∀ w ∈ ovX7_inner, w ∈ lw_tbl := dk_memi [758, 1030, 1032, 36, 57, 1034, 1036, 37, 1050, 1052, 41, 1054, 1056, 42, 1042, 1044, 39, 1058, 1060, 43, 1062, 1064, 44] (by decide +kernel)
set_option maxRecDepth 20000 in
theorem lw_vsX7_inner : ∀ w ∈ vsX7_inner, w ∈ lw_tbl := List.forall_mem_cons.mpr ⟨dk_memi (ws := [.code yX7_inner cX7_inner 18 (some .int)]) [1049] (by decide +kernel) _ List.mem_cons_self, List.forall_mem_append.mpr ⟨lw_ovX7_inner, (List.forall_mem_append.mpr ⟨wl_X7, (List.forall_mem_append.mpr ⟨lw_vsX7_squares, (List.forall_mem_append.mpr ⟨lw_vsX7_isSquare, (List.forall_mem_append.mpr ⟨lw_vsX7_leftOf, (List.forall_mem_append.mpr ⟨lw_vsX7_lowOf, (List.forall_mem_append.mpr ⟨lw_vsX7_sideOf, (List.forall_mem_append.mpr ⟨lw_vsX7_inside, (List.forall_mem_append.mpr ⟨lw_vsX7_ones, (fun _ h => absurd h List.not_mem_nil)⟩)⟩)⟩)⟩)⟩)⟩)⟩)⟩)⟩⟩
set_option maxRecDepth 20000 in
theorem lw_ovX7_about : ∀ w ∈ ovX7_about, w ∈ lw_tbl := dk_memi [783, 757, 882, 758, 762, 782, 792, 791, 763, 764, 760, 761, 765, 766, 938, 940, 24, 57, 962, 964, 30] (by decide +kernel)
set_option maxRecDepth 20000 in
theorem lw_vsX7_about : ∀ w ∈ vsX7_about, w ∈ lw_tbl := List.forall_mem_cons.mpr ⟨dk_memi (ws := [.code yX7_about cX7_about 6 (some .int)]) [937] (by decide +kernel) _ List.mem_cons_self, List.forall_mem_append.mpr ⟨lw_ovX7_about, (List.forall_mem_append.mpr ⟨wl_X7, (List.forall_mem_append.mpr ⟨lw_vsX7_flows, (List.forall_mem_append.mpr ⟨lw_vsX7_behind, (fun _ h => absurd h List.not_mem_nil)⟩)⟩)⟩)⟩⟩
set_option maxRecDepth 20000 in
theorem lw_ovX7_cause : ∀ w ∈ ovX7_cause, w ∈ lw_tbl := dk_memi [942, 944, 25, 57] (by decide +kernel)
set_option maxRecDepth 20000 in
theorem lw_vsX7_cause : ∀ w ∈ vsX7_cause, w ∈ lw_tbl := List.forall_mem_cons.mpr ⟨dk_memi (ws := [.code yX7_cause cX7_cause 1 (some .int)]) [992] (by decide +kernel) _ List.mem_cons_self, List.forall_mem_append.mpr ⟨lw_ovX7_cause, (List.forall_mem_append.mpr ⟨lw_vsX7_causeOf, (fun _ h => absurd h List.not_mem_nil)⟩)⟩⟩
set_option maxRecDepth 20000 in
theorem lw_ovX7_of : ∀ w ∈ ovX7_of, w ∈ lw_tbl := dk_memi [882, 759, 762, 761, 760, 898, 900, 22, 57] (by decide +kernel)
set_option maxRecDepth 20000 in
theorem lw_vsX7_of : ∀ w ∈ vsX7_of, w ∈ lw_tbl := List.forall_mem_cons.mpr ⟨dk_memi (ws := [.code yX7_of cX7_of 3 (some .int)]) [996] (by decide +kernel) _ List.mem_cons_self, List.forall_mem_append.mpr ⟨lw_ovX7_of, (List.forall_mem_append.mpr ⟨wl_X7, (List.forall_mem_append.mpr ⟨lw_vsX7_isWire, (fun _ h => absurd h List.not_mem_nil)⟩)⟩)⟩⟩
set_option maxRecDepth 20000 in
theorem lw_ovX7_turn : ∀ w ∈ ovX7_turn, w ∈ lw_tbl := dk_memi [764, 763, 882, 887, 889, 21, 57, 891, 892] (by decide +kernel)
set_option maxRecDepth 20000 in
theorem lw_vsX7_turn : ∀ w ∈ vsX7_turn, w ∈ lw_tbl := List.forall_mem_cons.mpr ⟨dk_memi (ws := [.code yX7_turn cX7_turn 3 (some .int)]) [1000] (by decide +kernel) _ List.mem_cons_self, List.forall_mem_append.mpr ⟨lw_ovX7_turn, (List.forall_mem_append.mpr ⟨wl_X7, (List.forall_mem_append.mpr ⟨lw_vsX7_isKnot, (List.forall_mem_append.mpr ⟨lw_vsX7_in, (fun _ h => absurd h List.not_mem_nil)⟩)⟩)⟩)⟩⟩
set_option maxRecDepth 20000 in
theorem lw_ovX7_faces : ∀ w ∈ ovX7_faces, w ∈ lw_tbl := dk_memi [783, 882, 946, 948, 26, 57, 958, 960, 29] (by decide +kernel)
set_option maxRecDepth 20000 in
theorem lw_vsX7_faces : ∀ w ∈ vsX7_faces, w ∈ lw_tbl := List.forall_mem_cons.mpr ⟨dk_memi (ws := [.code yX7_faces cX7_faces 1 (some .int)]) [1004] (by decide +kernel) _ List.mem_cons_self, List.forall_mem_append.mpr ⟨lw_ovX7_faces, (List.forall_mem_append.mpr ⟨wl_X7, (List.forall_mem_append.mpr ⟨lw_vsX7_areTurns, (List.forall_mem_append.mpr ⟨lw_vsX7_goAlong, (fun _ h => absurd h List.not_mem_nil)⟩)⟩)⟩)⟩⟩
set_option maxRecDepth 20000 in
theorem lw_ovX7_face : ∀ w ∈ ovX7_face, w ∈ lw_tbl := dk_memi [882, 758, 782, 946, 948, 26, 57, 891, 892, 958, 960, 29] (by decide +kernel)
set_option maxRecDepth 20000 in
theorem lw_vsX7_face : ∀ w ∈ vsX7_face, w ∈ lw_tbl := List.forall_mem_cons.mpr ⟨dk_memi (ws := [.code yX7_face cX7_face 2 (some .int)]) [1008] (by decide +kernel) _ List.mem_cons_self, List.forall_mem_append.mpr ⟨lw_ovX7_face, (List.forall_mem_append.mpr ⟨wl_X7, (List.forall_mem_append.mpr ⟨lw_vsX7_areTurns, (List.forall_mem_append.mpr ⟨lw_vsX7_in, (List.forall_mem_append.mpr ⟨lw_vsX7_goAlong, (fun _ h => absurd h List.not_mem_nil)⟩)⟩)⟩)⟩)⟩⟩
set_option maxRecDepth 20000 in
theorem lw_ovX7_trees : ∀ w ∈ ovX7_trees, w ∈ lw_tbl := dk_memi [1013, 788, 938, 940, 24, 57] (by decide +kernel)
set_option maxRecDepth 20000 in
theorem lw_vsX7_trees : ∀ w ∈ vsX7_trees, w ∈ lw_tbl := List.forall_mem_cons.mpr ⟨dk_memi (ws := [.code yX7_trees cX7_trees 1 (some .long)]) [1012] (by decide +kernel) _ List.mem_cons_self, List.forall_mem_append.mpr ⟨lw_ovX7_trees, (List.forall_mem_append.mpr ⟨wl_X7, (List.forall_mem_append.mpr ⟨lw_vsX7_flows, (fun _ h => absurd h List.not_mem_nil)⟩)⟩)⟩⟩
set_option maxRecDepth 20000 in
theorem lw_ovX7_current : ∀ w ∈ ovX7_current, w ∈ lw_tbl := dk_memi [882, 786, 938, 940, 24, 57, 898, 900, 22] (by decide +kernel)
set_option maxRecDepth 20000 in
theorem lw_vsX7_current : ∀ w ∈ vsX7_current, w ∈ lw_tbl := List.forall_mem_cons.mpr ⟨dk_memi (ws := [.code yX7_current cX7_current 2 (some .int)]) [1017] (by decide +kernel) _ List.mem_cons_self, List.forall_mem_append.mpr ⟨lw_ovX7_current, (List.forall_mem_append.mpr ⟨wl_X7, (List.forall_mem_append.mpr ⟨lw_vsX7_flows, (List.forall_mem_append.mpr ⟨lw_vsX7_isWire, (fun _ h => absurd h List.not_mem_nil)⟩)⟩)⟩)⟩⟩
set_option maxRecDepth 20000 in
theorem lw_ovX7_height : ∀ w ∈ ovX7_height, w ∈ lw_tbl := dk_memi [882, 785, 938, 940, 24, 57, 887, 889, 21] (by decide +kernel)
set_option maxRecDepth 20000 in
theorem lw_vsX7_height : ∀ w ∈ vsX7_height, w ∈ lw_tbl := List.forall_mem_cons.mpr ⟨dk_memi (ws := [.code yX7_height cX7_height 2 (some .int)]) [1021] (by decide +kernel) _ List.mem_cons_self, List.forall_mem_append.mpr ⟨lw_ovX7_height, (List.forall_mem_append.mpr ⟨wl_X7, (List.forall_mem_append.mpr ⟨lw_vsX7_flows, (List.forall_mem_append.mpr ⟨lw_vsX7_isKnot, (fun _ h => absurd h List.not_mem_nil)⟩)⟩)⟩)⟩⟩
set_option maxRecDepth 20000 in
theorem lw_ovX7_place : ∀ w ∈ ovX7_place, w ∈ lw_tbl := dk_memi [882, 783, 787, 938, 940, 24, 57, 891, 892] (by decide +kernel)
set_option maxRecDepth 20000 in
theorem lw_vsX7_place : ∀ w ∈ vsX7_place, w ∈ lw_tbl := List.forall_mem_cons.mpr ⟨dk_memi (ws := [.code yX7_place cX7_place 2 (some .int)]) [1025] (by decide +kernel) _ List.mem_cons_self, List.forall_mem_append.mpr ⟨lw_ovX7_place, (List.forall_mem_append.mpr ⟨wl_X7, (List.forall_mem_append.mpr ⟨lw_vsX7_flows, (List.forall_mem_append.mpr ⟨lw_vsX7_in, (fun _ h => absurd h List.not_mem_nil)⟩)⟩)⟩)⟩⟩
set_option maxRecDepth 20000 in
theorem lw_ovX7_rectangle : ∀ w ∈ ovX7_rectangle, w ∈ lw_tbl := dk_memi [789, 790, 882, 938, 940, 24, 57, 1030, 1032, 36, 1038, 1040, 38, 1046, 1048, 40] (by decide +kernel)
set_option maxRecDepth 20000 in
theorem lw_vsX7_rectangle : ∀ w ∈ vsX7_rectangle, w ∈ lw_tbl := List.forall_mem_cons.mpr ⟨dk_memi (ws := [.code yX7_rectangle cX7_rectangle 2 (some .int)]) [1029] (by decide +kernel) _ List.mem_cons_self, List.forall_mem_append.mpr ⟨lw_ovX7_rectangle, (List.forall_mem_append.mpr ⟨wl_X7, (List.forall_mem_append.mpr ⟨lw_vsX7_flows, (List.forall_mem_append.mpr ⟨lw_vsX7_squares, (List.forall_mem_append.mpr ⟨lw_vsX7_isPerfect, (List.forall_mem_append.mpr ⟨lw_vsX7_inner, (fun _ h => absurd h List.not_mem_nil)⟩)⟩)⟩)⟩)⟩)⟩⟩
set_option maxRecDepth 20000 in
theorem lw_ovX7_square : ∀ w ∈ ovX7_square, w ∈ lw_tbl := dk_memi [882, 938, 940, 24, 57, 898, 900, 22, 891, 892, 1034, 1036, 37, 1042, 1044, 39, 1054, 1056, 42, 1050, 1052, 41] (by decide +kernel)
set_option maxRecDepth 20000 in
theorem lw_vsX7_square : ∀ w ∈ vsX7_square, w ∈ lw_tbl := List.forall_mem_cons.mpr ⟨dk_memi (ws := [.code yX7_square cX7_square 3 (some .int)]) [1069] (by decide +kernel) _ List.mem_cons_self, List.forall_mem_append.mpr ⟨lw_ovX7_square, (List.forall_mem_append.mpr ⟨lw_vsX7_flows, (List.forall_mem_append.mpr ⟨lw_vsX7_isWire, (List.forall_mem_append.mpr ⟨lw_vsX7_in, (List.forall_mem_append.mpr ⟨lw_vsX7_isSquare, (List.forall_mem_append.mpr ⟨lw_vsX7_sideOf, (List.forall_mem_append.mpr ⟨lw_vsX7_lowOf, (List.forall_mem_append.mpr ⟨lw_vsX7_leftOf, (fun _ h => absurd h List.not_mem_nil)⟩)⟩)⟩)⟩)⟩)⟩)⟩)⟩⟩
set_option maxRecDepth 20000 in
theorem lw_ovX7_within : ∀ w ∈ ovX7_within, w ∈ lw_tbl := dk_memi [882, 758, 938, 940, 24, 57, 1046, 1048, 40] (by decide +kernel)
set_option maxRecDepth 20000 in
theorem lw_vsX7_within : ∀ w ∈ vsX7_within, w ∈ lw_tbl := List.forall_mem_cons.mpr ⟨dk_memi (ws := [.code yX7_within cX7_within 5 (some .int)]) [1073] (by decide +kernel) _ List.mem_cons_self, List.forall_mem_append.mpr ⟨lw_ovX7_within, (List.forall_mem_append.mpr ⟨wl_X7, (List.forall_mem_append.mpr ⟨lw_vsX7_flows, (List.forall_mem_append.mpr ⟨lw_vsX7_inner, (fun _ h => absurd h List.not_mem_nil)⟩)⟩)⟩)⟩⟩
set_option maxRecDepth 20000 in
theorem lw_ovX7_at : ∀ w ∈ ovX7_at, w ∈ lw_tbl := dk_memi [882, 758, 938, 940, 24, 57, 1034, 1036, 37, 1050, 1052, 41, 1054, 1056, 42, 1042, 1044, 39] (by decide +kernel)
set_option maxRecDepth 20000 in
theorem lw_vsX7_at : ∀ w ∈ vsX7_at, w ∈ lw_tbl := List.forall_mem_cons.mpr ⟨dk_memi (ws := [.code yX7_at cX7_at 6 (some .int)]) [1077] (by decide +kernel) _ List.mem_cons_self, List.forall_mem_append.mpr ⟨lw_ovX7_at, (List.forall_mem_append.mpr ⟨wl_X7, (List.forall_mem_append.mpr ⟨lw_vsX7_flows, (List.forall_mem_append.mpr ⟨lw_vsX7_isSquare, (List.forall_mem_append.mpr ⟨lw_vsX7_leftOf, (List.forall_mem_append.mpr ⟨lw_vsX7_lowOf, (List.forall_mem_append.mpr ⟨lw_vsX7_sideOf, (fun _ h => absurd h List.not_mem_nil)⟩)⟩)⟩)⟩)⟩)⟩)⟩⟩
set_option maxRecDepth 20000 in
theorem lw_ovX7_mayBe : ∀ w ∈ ovX7_mayBe, w ∈ lw_tbl := dk_memi [1085, 891, 892, 57] (by decide +kernel)
set_option maxRecDepth 20000 in
theorem lw_vsX7_mayBe : ∀ w ∈ vsX7_mayBe, w ∈ lw_tbl := List.forall_mem_cons.mpr ⟨dk_memi (ws := [.code yX7_mayBe cX7_mayBe 2 (some .boolean)]) [1084] (by decide +kernel) _ List.mem_cons_self, List.forall_mem_append.mpr ⟨lw_ovX7_mayBe, (List.forall_mem_append.mpr ⟨lw_vsX7_in, (fun _ h => absurd h List.not_mem_nil)⟩)⟩⟩
set_option maxRecDepth 20000 in
theorem lw_ovX7_tell : ∀ w ∈ ovX7_tell, w ∈ lw_tbl := dk_memi [778, 882, 779, 780, 781, 1082, 1083, 57] (by decide +kernel)
set_option maxRecDepth 20000 in
theorem lw_vsX7_tell : ∀ w ∈ vsX7_tell, w ∈ lw_tbl := List.forall_mem_cons.mpr ⟨dk_memi (ws := [.code yX7_tell cX7_tell 4 (some .int)]) [1081] (by decide +kernel) _ List.mem_cons_self, List.forall_mem_append.mpr ⟨lw_ovX7_tell, (List.forall_mem_append.mpr ⟨wl_X7, (List.forall_mem_append.mpr ⟨lw_vsX7_mayBe, (fun _ h => absurd h List.not_mem_nil)⟩)⟩)⟩⟩
set_option maxRecDepth 20000 in
theorem lw_ovX7_alter : ∀ w ∈ ovX7_alter, w ∈ lw_tbl := dk_memi [778, 882, 781, 780, 779, 891, 892, 57, 1082, 1083] (by decide +kernel)
set_option maxRecDepth 20000 in
theorem lw_vsX7_alter : ∀ w ∈ vsX7_alter, w ∈ lw_tbl := List.forall_mem_cons.mpr ⟨dk_memi (ws := [.code yX7_alter cX7_alter 5 (some .int)]) [1089] (by decide +kernel) _ List.mem_cons_self, List.forall_mem_append.mpr ⟨lw_ovX7_alter, (List.forall_mem_append.mpr ⟨wl_X7, (List.forall_mem_append.mpr ⟨lw_vsX7_in, (List.forall_mem_append.mpr ⟨lw_vsX7_mayBe, (fun _ h => absurd h List.not_mem_nil)⟩)⟩)⟩)⟩⟩
set_option maxRecDepth 20000 in
theorem lw_ovX7_hush : ∀ w ∈ ovX7_hush, w ∈ lw_tbl := dk_memi [778] (by decide +kernel)
set_option maxRecDepth 20000 in
theorem lw_vsX7_hush : ∀ w ∈ vsX7_hush, w ∈ lw_tbl := List.forall_mem_cons.mpr ⟨dk_memi (ws := [.code yX7_hush cX7_hush 2 (some .int)]) [1093] (by decide +kernel) _ List.mem_cons_self, List.forall_mem_append.mpr ⟨lw_ovX7_hush, (List.forall_mem_append.mpr ⟨wl_X7, (fun _ h => absurd h List.not_mem_nil)⟩)⟩⟩
set_option maxRecDepth 20000 in
theorem lw_ovX7_copy : ∀ w ∈ ovX7_copy, w ∈ lw_tbl := dk_memi [778, 882, 758, 779, 780, 781, 938, 940, 24, 57, 1034, 1036, 37, 1050, 1052, 41, 1054, 1056, 42, 1042, 1044, 39] (by decide +kernel)
set_option maxRecDepth 20000 in
theorem lw_vsX7_copy : ∀ w ∈ vsX7_copy, w ∈ lw_tbl := List.forall_mem_cons.mpr ⟨dk_memi (ws := [.code yX7_copy cX7_copy 2 (some .int)]) [1097] (by decide +kernel) _ List.mem_cons_self, List.forall_mem_append.mpr ⟨lw_ovX7_copy, (List.forall_mem_append.mpr ⟨wl_X7, (List.forall_mem_append.mpr ⟨lw_vsX7_flows, (List.forall_mem_append.mpr ⟨lw_vsX7_isSquare, (List.forall_mem_append.mpr ⟨lw_vsX7_leftOf, (List.forall_mem_append.mpr ⟨lw_vsX7_lowOf, (List.forall_mem_append.mpr ⟨lw_vsX7_sideOf, (fun _ h => absurd h List.not_mem_nil)⟩)⟩)⟩)⟩)⟩)⟩)⟩⟩
set_option maxRecDepth 20000 in
theorem lw_ovX7_overlap : ∀ w ∈ ovX7_overlap, w ∈ lw_tbl := dk_memi [779, 781, 780] (by decide +kernel)
set_option maxRecDepth 20000 in
theorem lw_vsX7_overlap : ∀ w ∈ vsX7_overlap, w ∈ lw_tbl := List.forall_mem_cons.mpr ⟨dk_memi (ws := [.code yX7_overlap cX7_overlap 3 (some .boolean)]) [1105] (by decide +kernel) _ List.mem_cons_self, List.forall_mem_append.mpr ⟨lw_ovX7_overlap, (List.forall_mem_append.mpr ⟨wl_X7, (fun _ h => absurd h List.not_mem_nil)⟩)⟩⟩
set_option maxRecDepth 20000 in
theorem lw_ovX7_fit : ∀ w ∈ ovX7_fit, w ∈ lw_tbl := dk_memi [1085, 882, 778, 779, 781, 780, 891, 892, 57, 1102, 1104, 45] (by decide +kernel)
set_option maxRecDepth 20000 in
theorem lw_vsX7_fit : ∀ w ∈ vsX7_fit, w ∈ lw_tbl := List.forall_mem_cons.mpr ⟨dk_memi (ws := [.code yX7_fit cX7_fit 7 (some .int)]) [1101] (by decide +kernel) _ List.mem_cons_self, List.forall_mem_append.mpr ⟨lw_ovX7_fit, (List.forall_mem_append.mpr ⟨wl_X7, (List.forall_mem_append.mpr ⟨lw_vsX7_in, (List.forall_mem_append.mpr ⟨lw_vsX7_overlap, (fun _ h => absurd h List.not_mem_nil)⟩)⟩)⟩)⟩⟩
set_option maxRecDepth 20000 in
theorem lw_ovX7_draw : ∀ w ∈ ovX7_draw, w ∈ lw_tbl := dk_memi [796, 778, 793, 780, 781, 794, 779, 795] (by decide +kernel)
set_option maxRecDepth 20000 in
theorem lw_vsX7_draw : ∀ w ∈ vsX7_draw, w ∈ lw_tbl := List.forall_mem_cons.mpr ⟨dk_memi (ws := [.code yX7_draw cX7_draw 7 none]) [1114] (by decide +kernel) _ List.mem_cons_self, List.forall_mem_append.mpr ⟨lw_ovX7_draw, (List.forall_mem_append.mpr ⟨wl_X7, (fun _ h => absurd h List.not_mem_nil)⟩)⟩⟩
set_option maxRecDepth 20000 in
theorem lw_ovX7_lineOf : ∀ w ∈ ovX7_lineOf, w ∈ lw_tbl := dk_memi [793, 794, 795] (by decide +kernel)
set_option maxRecDepth 20000 in
theorem lw_vsX7_lineOf : ∀ w ∈ vsX7_lineOf, w ∈ lw_tbl := List.forall_mem_cons.mpr ⟨dk_memi (ws := [.code yX7_lineOf cX7_lineOf 4 (some .int)]) [1118] (by decide +kernel) _ List.mem_cons_self, List.forall_mem_append.mpr ⟨lw_ovX7_lineOf, (List.forall_mem_append.mpr ⟨wl_X7, (fun _ h => absurd h List.not_mem_nil)⟩)⟩⟩
set_option maxRecDepth 20000 in
theorem lw_ovX7_hangs : ∀ w ∈ ovX7_hangs, w ∈ lw_tbl := dk_memi [1123, 778, 761, 760, 779, 763, 764] (by decide +kernel)
set_option maxRecDepth 20000 in
theorem lw_vsX7_hangs : ∀ w ∈ vsX7_hangs, w ∈ lw_tbl := List.forall_mem_cons.mpr ⟨dk_memi (ws := [.code yX7_hangs cX7_hangs 7 none]) [1122] (by decide +kernel) _ List.mem_cons_self, List.forall_mem_append.mpr ⟨lw_ovX7_hangs, (List.forall_mem_append.mpr ⟨wl_X7, (fun _ h => absurd h List.not_mem_nil)⟩)⟩⟩
set_option maxRecDepth 20000 in
theorem lw_ovX7_read : ∀ w ∈ ovX7_read, w ∈ lw_tbl := dk_memi [796, 757, 778, 758, 759, 760, 761, 882, 780, 781, 779, 762, 765, 766, 764, 763, 1110, 1099, 1100, 57, 1111, 1113, 46, 1115, 1117, 47, 1119, 1121, 48] (by decide +kernel)
set_option maxRecDepth 20000 in
theorem lw_vsX7_read : ∀ w ∈ vsX7_read, w ∈ lw_tbl := List.forall_mem_cons.mpr ⟨dk_memi (ws := [.code yX7_read cX7_read 4 (some .int)]) [1109] (by decide +kernel) _ List.mem_cons_self, List.forall_mem_append.mpr ⟨lw_ovX7_read, (List.forall_mem_append.mpr ⟨wl_X7, (List.forall_mem_append.mpr ⟨lw_vsX7_fit, (List.forall_mem_append.mpr ⟨lw_vsX7_draw, (List.forall_mem_append.mpr ⟨lw_vsX7_lineOf, (List.forall_mem_append.mpr ⟨lw_vsX7_hangs, (fun _ h => absurd h List.not_mem_nil)⟩)⟩)⟩)⟩)⟩)⟩⟩
set_option maxRecDepth 20000 in
theorem lw_ovX7_mayClaim : ∀ w ∈ ovX7_mayClaim, w ∈ lw_tbl := dk_memi [1131, 1132, 891, 892, 57] (by decide +kernel)
set_option maxRecDepth 20000 in
theorem lw_vsX7_mayClaim : ∀ w ∈ vsX7_mayClaim, w ∈ lw_tbl := List.forall_mem_cons.mpr ⟨dk_memi (ws := [.code yX7_mayClaim cX7_mayClaim 1 (some .boolean)]) [1130] (by decide +kernel) _ List.mem_cons_self, List.forall_mem_append.mpr ⟨lw_ovX7_mayClaim, (List.forall_mem_append.mpr ⟨lw_vsX7_in, (fun _ h => absurd h List.not_mem_nil)⟩)⟩⟩
set_option maxRecDepth 20000 in
theorem lw_ovX7_claim : ∀ w ∈ ovX7_claim, w ∈ lw_tbl := dk_memi [882, 765, 898, 900, 22, 57, 1128, 1129] (by decide +kernel)
set_option maxRecDepth 20000 in
theorem lw_vsX7_claim : ∀ w ∈ vsX7_claim, w ∈ lw_tbl := List.forall_mem_cons.mpr ⟨dk_memi (ws := [.code yX7_claim cX7_claim 4 (some .int)]) [1127] (by decide +kernel) _ List.mem_cons_self, List.forall_mem_append.mpr ⟨lw_ovX7_claim, (List.forall_mem_append.mpr ⟨wl_X7, (List.forall_mem_append.mpr ⟨lw_vsX7_isWire, (List.forall_mem_append.mpr ⟨lw_vsX7_mayClaim, (fun _ h => absurd h List.not_mem_nil)⟩)⟩)⟩)⟩⟩
set_option maxRecDepth 20000 in
theorem lw_ovX7_raise : ∀ w ∈ ovX7_raise, w ∈ lw_tbl := dk_memi [882, 766, 887, 889, 21, 57, 1128, 1129] (by decide +kernel)
set_option maxRecDepth 20000 in
theorem lw_vsX7_raise : ∀ w ∈ vsX7_raise, w ∈ lw_tbl := List.forall_mem_cons.mpr ⟨dk_memi (ws := [.code yX7_raise cX7_raise 4 (some .int)]) [1136] (by decide +kernel) _ List.mem_cons_self, List.forall_mem_append.mpr ⟨lw_ovX7_raise, (List.forall_mem_append.mpr ⟨wl_X7, (List.forall_mem_append.mpr ⟨lw_vsX7_isKnot, (List.forall_mem_append.mpr ⟨lw_vsX7_mayClaim, (fun _ h => absurd h List.not_mem_nil)⟩)⟩)⟩)⟩⟩
set_option maxRecDepth 20000 in
theorem lw_ovX7_grant : ∀ w ∈ ovX7_grant, w ∈ lw_tbl := dk_memi [758, 882, 765, 786, 757, 766, 785, 938, 940, 24, 57] (by decide +kernel)
set_option maxRecDepth 20000 in
theorem lw_vsX7_grant : ∀ w ∈ vsX7_grant, w ∈ lw_tbl := List.forall_mem_cons.mpr ⟨dk_memi (ws := [.code yX7_grant cX7_grant 2 (some .int)]) [1140] (by decide +kernel) _ List.mem_cons_self, List.forall_mem_append.mpr ⟨lw_ovX7_grant, (List.forall_mem_append.mpr ⟨wl_X7, (List.forall_mem_append.mpr ⟨lw_vsX7_flows, (fun _ h => absurd h List.not_mem_nil)⟩)⟩)⟩⟩
set_option maxRecDepth 20000 in
theorem lw_ovX7_judge : ∀ w ∈ ovX7_judge, w ∈ lw_tbl := dk_memi [766, 761, 759, 760, 882, 758, 765, 757, 942, 944, 25, 57, 954, 956, 28, 982, 983] (by decide +kernel)
set_option maxRecDepth 20000 in
theorem lw_vsX7_judge : ∀ w ∈ vsX7_judge, w ∈ lw_tbl := List.forall_mem_cons.mpr ⟨dk_memi (ws := [.code yX7_judge cX7_judge 5 (some .int)]) [1144] (by decide +kernel) _ List.mem_cons_self, List.forall_mem_append.mpr ⟨lw_ovX7_judge, (List.forall_mem_append.mpr ⟨wl_X7, (List.forall_mem_append.mpr ⟨lw_vsX7_causeOf, (List.forall_mem_append.mpr ⟨lw_vsX7_isPlain, (List.forall_mem_append.mpr ⟨lw_vsX7_common, (fun _ h => absurd h List.not_mem_nil)⟩)⟩)⟩)⟩)⟩⟩
set_option maxRecDepth 20000 in
theorem lw_ovX7_count : ∀ w ∈ ovX7_count, w ∈ lw_tbl := dk_memi [882, 759, 778, 758, 757] (by decide +kernel)
set_option maxRecDepth 20000 in
theorem lw_vsX7_count : ∀ w ∈ vsX7_count, w ∈ lw_tbl := List.forall_mem_cons.mpr ⟨dk_memi (ws := [.code yX7_count cX7_count 2 (some .int)]) [1148] (by decide +kernel) _ List.mem_cons_self, List.forall_mem_append.mpr ⟨lw_ovX7_count, (List.forall_mem_append.mpr ⟨wl_X7, (fun _ h => absurd h List.not_mem_nil)⟩)⟩⟩
set_option maxRecDepth 20000 in
theorem lw_ovX0_init : ∀ w ∈ ovX0_init, w ∈ lw_tbl := dk_memi [137, 67, 68, 130, 138, 140, 141] (by decide +kernel)
set_option maxRecDepth 20000 in
theorem lw_vsX0_init : ∀ w ∈ vsX0_init, w ∈ lw_tbl := List.forall_mem_cons.mpr ⟨dk_memi (ws := [.code yX0_init cX0_init 1 none]) [136] (by decide +kernel) _ List.mem_cons_self, List.forall_mem_append.mpr ⟨lw_ovX0_init, (List.forall_mem_append.mpr ⟨wl_X0, (fun _ h => absurd h List.not_mem_nil)⟩)⟩⟩
set_option maxRecDepth 20000 in
theorem lw_ovX1_init : ∀ w ∈ ovX1_init, w ∈ lw_tbl := dk_memi [156, 67, 68, 191, 157, 130, 158, 161, 164, 131, 167, 168, 170, 172] (by decide +kernel)
set_option maxRecDepth 20000 in
theorem lw_vsX1_init : ∀ w ∈ vsX1_init, w ∈ lw_tbl := List.forall_mem_cons.mpr ⟨dk_memi (ws := [.code yX1_init cX1_init 1 none]) [155] (by decide +kernel) _ List.mem_cons_self, List.forall_mem_append.mpr ⟨lw_ovX1_init, (List.forall_mem_append.mpr ⟨wl_X1, (fun _ h => absurd h List.not_mem_nil)⟩)⟩⟩
set_option maxRecDepth 20000 in
theorem lw_ovX3_init : ∀ w ∈ ovX3_init, w ∈ lw_tbl := dk_memi [259, 67, 68, 130, 260, 261, 262] (by decide +kernel)
set_option maxRecDepth 20000 in
theorem lw_vsX3_init : ∀ w ∈ vsX3_init, w ∈ lw_tbl := List.forall_mem_cons.mpr ⟨dk_memi (ws := [.code yX3_init cX3_init 1 none]) [258] (by decide +kernel) _ List.mem_cons_self, List.forall_mem_append.mpr ⟨lw_ovX3_init, (List.forall_mem_append.mpr ⟨wl_X3, (fun _ h => absurd h List.not_mem_nil)⟩)⟩⟩
set_option maxRecDepth 20000 in
theorem lw_ovX4_init : ∀ w ∈ ovX4_init, w ∈ lw_tbl := dk_memi [74, 67, 68, 130, 75, 80, 131, 85, 87, 90, 92, 94, 95, 100, 105] (by decide +kernel)
set_option maxRecDepth 20000 in
theorem lw_vsX4_init : ∀ w ∈ vsX4_init, w ∈ lw_tbl := List.forall_mem_cons.mpr ⟨dk_memi (ws := [.code yX4_init cX4_init 1 none]) [73] (by decide +kernel) _ List.mem_cons_self, List.forall_mem_append.mpr ⟨lw_ovX4_init, (List.forall_mem_append.mpr ⟨wl_X4, (fun _ h => absurd h List.not_mem_nil)⟩)⟩⟩
set_option maxRecDepth 20000 in
theorem lw_ovX5_init : ∀ w ∈ ovX5_init, w ∈ lw_tbl := dk_memi [203, 67, 68, 130, 204, 207, 210, 212] (by decide +kernel)
set_option maxRecDepth 20000 in
theorem lw_vsX5_init : ∀ w ∈ vsX5_init, w ∈ lw_tbl := List.forall_mem_cons.mpr ⟨dk_memi (ws := [.code yX5_init cX5_init 1 none]) [202] (by decide +kernel) _ List.mem_cons_self, List.forall_mem_append.mpr ⟨lw_ovX5_init, (List.forall_mem_append.mpr ⟨wl_X5, (fun _ h => absurd h List.not_mem_nil)⟩)⟩⟩
set_option maxRecDepth 20000 in
theorem lw_ovX2_init : ∀ w ∈ ovX2_init, w ∈ lw_tbl := dk_memi [197, 67, 68, 198, 199, 55, 201, 225, 130, 227, 228, 229, 230, 232, 233, 234] (by decide +kernel)
set_option maxRecDepth 20000 in
theorem lw_vsX2_init : ∀ w ∈ vsX2_init, w ∈ lw_tbl := List.forall_mem_cons.mpr ⟨dk_memi (ws := [.code yX2_init cX2_init 1 none]) [196] (by decide +kernel) _ List.mem_cons_self, List.forall_mem_append.mpr ⟨lw_ovX2_init, (List.forall_mem_append.mpr ⟨wl_X5, (List.forall_mem_append.mpr ⟨wl_X2, (List.forall_mem_append.mpr ⟨lw_vsX5_init, (fun _ h => absurd h List.not_mem_nil)⟩)⟩)⟩)⟩⟩
set_option maxRecDepth 20000 in
theorem lw_ovX6_init : ∀ w ∈ ovX6_init, w ∈ lw_tbl := dk_memi [66, 67, 68, 69, 70, 51, 72, 271, 272, 132, 133, 52, 135, 273, 151, 152, 53, 154, 274, 192, 193, 54, 195, 275, 252, 199, 55, 201, 276, 254, 255, 56, 257, 277] (by decide +kernel)
set_option maxRecDepth 20000 in
theorem lw_vsX6_init : ∀ w ∈ vsX6_init, w ∈ lw_tbl := List.forall_mem_cons.mpr ⟨dk_memi (ws := [.code yX6_init cX6_init 1 none]) [65] (by decide +kernel) _ List.mem_cons_self, List.forall_mem_append.mpr ⟨lw_ovX6_init, (List.forall_mem_append.mpr ⟨wl_X4, (List.forall_mem_append.mpr ⟨wl_X6, (List.forall_mem_append.mpr ⟨wl_X0, (List.forall_mem_append.mpr ⟨wl_X1, (List.forall_mem_append.mpr ⟨wl_X2, (List.forall_mem_append.mpr ⟨wl_X5, (List.forall_mem_append.mpr ⟨wl_X3, (List.forall_mem_append.mpr ⟨lw_vsX4_init, (List.forall_mem_append.mpr ⟨lw_vsX0_init, (List.forall_mem_append.mpr ⟨lw_vsX1_init, (List.forall_mem_append.mpr ⟨lw_vsX2_init, (List.forall_mem_append.mpr ⟨lw_vsX5_init, (List.forall_mem_append.mpr ⟨lw_vsX3_init, (fun _ h => absurd h List.not_mem_nil)⟩)⟩)⟩)⟩)⟩)⟩)⟩)⟩)⟩)⟩)⟩)⟩)⟩)⟩⟩
set_option maxRecDepth 20000 in
theorem lw_ovX7_init : ∀ w ∈ ovX7_init, w ∈ lw_tbl := dk_memi [756, 67, 68, 759, 130, 760, 761, 131, 762, 763, 764, 765, 766, 771, 772, 773, 774, 775, 776, 777, 779, 780, 781, 782, 191, 784, 785, 786, 787, 791, 792, 793, 794, 795] (by decide +kernel)
set_option maxRecDepth 20000 in
theorem lw_vsX7_init : ∀ w ∈ vsX7_init, w ∈ lw_tbl := List.forall_mem_cons.mpr ⟨dk_memi (ws := [.code yX7_init cX7_init 1 none]) [755] (by decide +kernel) _ List.mem_cons_self, List.forall_mem_append.mpr ⟨lw_ovX7_init, (List.forall_mem_append.mpr ⟨wl_X7, (fun _ h => absurd h List.not_mem_nil)⟩)⟩⟩
set_option maxRecDepth 20000 in
theorem lw_ovX6_back0 : ∀ w ∈ ovX6_back0, w ∈ lw_tbl := dk_memi [272, 297] (by decide +kernel)
set_option maxRecDepth 20000 in
theorem lw_vsX6_back0 : ∀ w ∈ vsX6_back0, w ∈ lw_tbl := List.forall_mem_cons.mpr ⟨dk_memi (ws := [.code yX6_back cX6_back 1 (some .int)]) [440] (by decide +kernel) _ List.mem_cons_self, List.forall_mem_append.mpr ⟨lw_ovX6_back0, (List.forall_mem_append.mpr ⟨wl_X6, (fun _ h => absurd h List.not_mem_nil)⟩)⟩⟩
set_option maxRecDepth 20000 in
theorem lw_ovX6_back1 : ∀ w ∈ ovX6_back1, w ∈ lw_tbl := dk_memi [272, 271, 104, 430, 431, 432, 51] (by decide +kernel)
set_option maxRecDepth 20000 in
theorem lw_vsX6_back1 : ∀ w ∈ vsX6_back1, w ∈ lw_tbl := List.forall_mem_cons.mpr ⟨dk_memi (ws := [.code yX6_back cX6_back 1 (some .int)]) [440] (by decide +kernel) _ List.mem_cons_self, List.forall_mem_append.mpr ⟨lw_ovX6_back1, (List.forall_mem_append.mpr ⟨wl_X6, (List.forall_mem_append.mpr ⟨wl_X4, (List.forall_mem_append.mpr ⟨lw_vsX4_takeFrom, (fun _ h => absurd h List.not_mem_nil)⟩)⟩)⟩)⟩⟩
set_option maxRecDepth 20000 in
theorem lw_ovX6_keep1 : ∀ w ∈ ovX6_keep1, w ∈ lw_tbl := dk_memi [272, 271, 104, 430, 431, 432, 51] (by decide +kernel)
set_option maxRecDepth 20000 in
theorem lw_vsX6_keep1 : ∀ w ∈ vsX6_keep1, w ∈ lw_tbl := List.forall_mem_cons.mpr ⟨dk_memi (ws := [.code yX6_keep cX6_keep 1 (some .int)]) [429] (by decide +kernel) _ List.mem_cons_self, List.forall_mem_append.mpr ⟨lw_ovX6_keep1, (List.forall_mem_append.mpr ⟨wl_X6, (List.forall_mem_append.mpr ⟨wl_X4, (List.forall_mem_append.mpr ⟨lw_vsX4_takeFrom, (fun _ h => absurd h List.not_mem_nil)⟩)⟩)⟩)⟩⟩
set_option maxRecDepth 20000 in
theorem lw_ovX6_keep0 : ∀ w ∈ ovX6_keep0, w ∈ lw_tbl := dk_memi [272, 271, 104, 69, 70, 51, 72, 430, 431, 432] (by decide +kernel)
set_option maxRecDepth 20000 in
theorem lw_vsX6_keep0 : ∀ w ∈ vsX6_keep0, w ∈ lw_tbl := List.forall_mem_cons.mpr ⟨dk_memi (ws := [.code yX6_keep cX6_keep 1 (some .int)]) [429] (by decide +kernel) _ List.mem_cons_self, List.forall_mem_append.mpr ⟨lw_ovX6_keep0, (List.forall_mem_append.mpr ⟨wl_X6, (List.forall_mem_append.mpr ⟨wl_X4, (List.forall_mem_append.mpr ⟨lw_vsX4_init, (List.forall_mem_append.mpr ⟨lw_vsX4_takeFrom, (fun _ h => absurd h List.not_mem_nil)⟩)⟩)⟩)⟩)⟩⟩
set_option maxRecDepth 20000 in
theorem qL_in0 : Cond.instantiable RX0 3 ∈ lw_tbl := dk_memi (ws := [Cond.instantiable RX0 3]) [133] (by decide +kernel) _ List.mem_cons_self
set_option maxRecDepth 20000 in
theorem qL_in1 : Cond.instantiable RX1 8 ∈ lw_tbl := dk_memi (ws := [Cond.instantiable RX1 8]) [152] (by decide +kernel) _ List.mem_cons_self
set_option maxRecDepth 20000 in
theorem qL_in2 : Cond.instantiable RX2 8 ∈ lw_tbl := dk_memi (ws := [Cond.instantiable RX2 8]) [193] (by decide +kernel) _ List.mem_cons_self
set_option maxRecDepth 20000 in
theorem qL_in3 : Cond.instantiable RX3 3 ∈ lw_tbl := dk_memi (ws := [Cond.instantiable RX3 3]) [255] (by decide +kernel) _ List.mem_cons_self
set_option maxRecDepth 20000 in
theorem qL_in4 : Cond.instantiable RX4 10 ∈ lw_tbl := dk_memi (ws := [Cond.instantiable RX4 10]) [70] (by decide +kernel) _ List.mem_cons_self
set_option maxRecDepth 20000 in
theorem qL_in5 : Cond.instantiable RX5 4 ∈ lw_tbl := dk_memi (ws := [Cond.instantiable RX5 4]) [199] (by decide +kernel) _ List.mem_cons_self
set_option maxRecDepth 20000 in
theorem qL_in6 : Cond.instantiable RX6 7 ∈ lw_tbl := dk_memi (ws := [Cond.instantiable RX6 7]) [62] (by decide +kernel) _ List.mem_cons_self
set_option maxRecDepth 20000 in
theorem qL_in7 : Cond.instantiable RX7 40 ∈ lw_tbl := dk_memi (ws := [Cond.instantiable RX7 40]) [752] (by decide +kernel) _ List.mem_cons_self
set_option maxRecDepth 20000 in
theorem qL_aI : Cond.arrayClass .int ∈ lw_tbl := dk_memi (ws := [Cond.arrayClass .int]) [130] (by decide +kernel) _ List.mem_cons_self
set_option maxRecDepth 20000 in
theorem qL_aJ : Cond.arrayClass .long ∈ lw_tbl := dk_memi (ws := [Cond.arrayClass .long]) [191] (by decide +kernel) _ List.mem_cons_self
set_option maxRecDepth 20000 in
theorem qL_aZ : Cond.arrayClass .boolean ∈ lw_tbl := dk_memi (ws := [Cond.arrayClass .boolean]) [131] (by decide +kernel) _ List.mem_cons_self
set_option maxRecDepth 20000 in
theorem qL_cl7 : Cond.classLink RL 7 RX6 ∈ lw_tbl := dk_memi (ws := [Cond.classLink RL 7 RX6]) [61] (by decide +kernel) _ List.mem_cons_self
set_option maxRecDepth 20000 in
theorem qL_cl10 : Cond.classLink RL 10 RX7 ∈ lw_tbl := dk_memi (ws := [Cond.classLink RL 10 RX7]) [751] (by decide +kernel) _ List.mem_cons_self
set_option maxRecDepth 20000 in
theorem qL_it6 : Cond.initialized RX6 ∈ lw_tbl := dk_memi (ws := [Cond.initialized RX6]) [50] (by decide +kernel) _ List.mem_cons_self
set_option maxRecDepth 20000 in
theorem qL_im6 : Cond.instanceMethod yX6_init ∈ lw_tbl := dk_memi (ws := [Cond.instanceMethod yX6_init]) [64] (by decide +kernel) _ List.mem_cons_self
set_option maxRecDepth 20000 in
theorem qL_it7 : Cond.initialized RX7 ∈ lw_tbl := dk_memi (ws := [Cond.initialized RX7]) [57] (by decide +kernel) _ List.mem_cons_self
set_option maxRecDepth 20000 in
theorem qL_im7 : Cond.instanceMethod yX7_init ∈ lw_tbl := dk_memi (ws := [Cond.instanceMethod yX7_init]) [754] (by decide +kernel) _ List.mem_cons_self
set_option maxRecDepth 20000 in
theorem qL_ml9 : Cond.methodLink RL 9 yX6_init ∈ lw_tbl := dk_memi (ws := [Cond.methodLink RL 9 yX6_init]) [63] (by decide +kernel) _ List.mem_cons_self
set_option maxRecDepth 20000 in
theorem qL_ml12 : Cond.methodLink RL 12 yX7_init ∈ lw_tbl := dk_memi (ws := [Cond.methodLink RL 12 yX7_init]) [753] (by decide +kernel) _ List.mem_cons_self
set_option maxRecDepth 20000 in
theorem qL_ne0 : Cond.methodLinkNest RX6 11 yX4_init "SquareTiler" ∈ lw_tbl := dk_memi (ws := [Cond.methodLinkNest RX6 11 yX4_init "SquareTiler"]) [71] (by decide +kernel) _ List.mem_cons_self
set_option maxRecDepth 20000 in
theorem qL_ne1 : Cond.methodLinkNest RX6 21 yX0_init "SquareTiler" ∈ lw_tbl := dk_memi (ws := [Cond.methodLinkNest RX6 21 yX0_init "SquareTiler"]) [134] (by decide +kernel) _ List.mem_cons_self
set_option maxRecDepth 20000 in
theorem qL_ne2 : Cond.methodLinkNest RX6 28 yX1_init "SquareTiler" ∈ lw_tbl := dk_memi (ws := [Cond.methodLinkNest RX6 28 yX1_init "SquareTiler"]) [153] (by decide +kernel) _ List.mem_cons_self
set_option maxRecDepth 20000 in
theorem qL_ne3 : Cond.methodLinkNest RX6 35 yX2_init "SquareTiler" ∈ lw_tbl := dk_memi (ws := [Cond.methodLinkNest RX6 35 yX2_init "SquareTiler"]) [194] (by decide +kernel) _ List.mem_cons_self
set_option maxRecDepth 20000 in
theorem qL_ne4 : Cond.methodLinkNest RX6 42 yX5_init "SquareTiler" ∈ lw_tbl := dk_memi (ws := [Cond.methodLinkNest RX6 42 yX5_init "SquareTiler"]) [253] (by decide +kernel) _ List.mem_cons_self
set_option maxRecDepth 20000 in
theorem qL_ne5 : Cond.methodLinkNest RX6 49 yX3_init "SquareTiler" ∈ lw_tbl := dk_memi (ws := [Cond.methodLinkNest RX6 49 yX3_init "SquareTiler"]) [256] (by decide +kernel) _ List.mem_cons_self
set_option maxRecDepth 20000 in
theorem qL_ne6 : Cond.methodLinkNest RX2 11 yX5_init "SquareTiler" ∈ lw_tbl := dk_memi (ws := [Cond.methodLinkNest RX2 11 yX5_init "SquareTiler"]) [200] (by decide +kernel) _ List.mem_cons_self
theorem gvL_law_X6_init : GoodIn lw_tbl vsX6_init := dk_gIn lw_vsX6_init gd_vsX6_init
theorem gvL_law_X7_init : GoodIn lw_tbl vsX7_init := dk_gIn lw_vsX7_init gd_vsX7_init
set_option maxRecDepth 20000 in
theorem gfL_law_X6_knot : GoodIn lw_tbl [Cond.methodLink RL 13 yX6_knot, Cond.instanceMethod yX6_knot, Cond.selects RX6 yX6_knot yX6_knot, Cond.initialized RX6] := dk_gIn (dk_memi [293, 294, 295, 50] (by decide +kernel)) (dk_all (by decide +kernel))
theorem gvL_law_X6_knot : GoodIn lw_tbl (wsV RL 13 RX6 yX6_knot vsX6_knot) := goodIn_app gfL_law_X6_knot (dk_gIn lw_vsX6_knot gd_vsX6_knot)
set_option maxRecDepth 20000 in
theorem gfL_law_X7_knot : GoodIn lw_tbl [Cond.methodLink RL 17 yX7_knot, Cond.instanceMethod yX7_knot, Cond.selects RX7 yX7_knot yX7_knot, Cond.initialized RX7] := dk_gIn (dk_memi [878, 879, 880, 57] (by decide +kernel)) (dk_all (by decide +kernel))
theorem gvL_law_X7_knot : GoodIn lw_tbl (wsV RL 17 RX7 yX7_knot vsX7_knot) := goodIn_app gfL_law_X7_knot (dk_gIn lw_vsX7_knot gd_vsX7_knot)
set_option maxRecDepth 20000 in
theorem gfL_law_X6_wire : GoodIn lw_tbl [Cond.methodLink RL 18 yX6_wire, Cond.instanceMethod yX6_wire, Cond.selects RX6 yX6_wire yX6_wire, Cond.initialized RX6] := dk_gIn (dk_memi [302, 303, 304, 50] (by decide +kernel)) (dk_all (by decide +kernel))
theorem gvL_law_X6_wire : GoodIn lw_tbl (wsV RL 18 RX6 yX6_wire vsX6_wire) := goodIn_app gfL_law_X6_wire (dk_gIn lw_vsX6_wire gd_vsX6_wire)
set_option maxRecDepth 20000 in
theorem gfL_law_X7_wire : GoodIn lw_tbl [Cond.methodLink RL 22 yX7_wire, Cond.instanceMethod yX7_wire, Cond.selects RX7 yX7_wire yX7_wire, Cond.initialized RX7] := dk_gIn (dk_memi [883, 884, 885, 57] (by decide +kernel)) (dk_all (by decide +kernel))
theorem gvL_law_X7_wire : GoodIn lw_tbl (wsV RL 22 RX7 yX7_wire vsX7_wire) := goodIn_app gfL_law_X7_wire (dk_gIn lw_vsX7_wire gd_vsX7_wire)
set_option maxRecDepth 20000 in
theorem gfL_law_X6_battery : GoodIn lw_tbl [Cond.methodLink RL 23 yX6_battery, Cond.instanceMethod yX6_battery, Cond.selects RX6 yX6_battery yX6_battery, Cond.initialized RX6] := dk_gIn (dk_memi [314, 315, 316, 50] (by decide +kernel)) (dk_all (by decide +kernel))
theorem gvL_law_X6_battery : GoodIn lw_tbl (wsV RL 23 RX6 yX6_battery vsX6_battery) := goodIn_app gfL_law_X6_battery (dk_gIn lw_vsX6_battery gd_vsX6_battery)
set_option maxRecDepth 20000 in
theorem gfL_law_X7_battery : GoodIn lw_tbl [Cond.methodLink RL 27 yX7_battery, Cond.instanceMethod yX7_battery, Cond.selects RX7 yX7_battery yX7_battery, Cond.initialized RX7] := dk_gIn (dk_memi [894, 895, 896, 57] (by decide +kernel)) (dk_all (by decide +kernel))
theorem gvL_law_X7_battery : GoodIn lw_tbl (wsV RL 27 RX7 yX7_battery vsX7_battery) := goodIn_app gfL_law_X7_battery (dk_gIn lw_vsX7_battery gd_vsX7_battery)
set_option maxRecDepth 20000 in
theorem gfL_law_X6_cut : GoodIn lw_tbl [Cond.methodLink RL 28 yX6_cut, Cond.instanceMethod yX6_cut, Cond.selects RX6 yX6_cut yX6_cut, Cond.initialized RX6] := dk_gIn (dk_memi [322, 323, 324, 50] (by decide +kernel)) (dk_all (by decide +kernel))
theorem gvL_law_X6_cut : GoodIn lw_tbl (wsV RL 28 RX6 yX6_cut vsX6_cut) := goodIn_app gfL_law_X6_cut (dk_gIn lw_vsX6_cut gd_vsX6_cut)
set_option maxRecDepth 20000 in
theorem gfL_law_X7_cut : GoodIn lw_tbl [Cond.methodLink RL 32 yX7_cut, Cond.instanceMethod yX7_cut, Cond.selects RX7 yX7_cut yX7_cut, Cond.initialized RX7] := dk_gIn (dk_memi [902, 903, 904, 57] (by decide +kernel)) (dk_all (by decide +kernel))
theorem gvL_law_X7_cut : GoodIn lw_tbl (wsV RL 32 RX7 yX7_cut vsX7_cut) := goodIn_app gfL_law_X7_cut (dk_gIn lw_vsX7_cut gd_vsX7_cut)
set_option maxRecDepth 20000 in
theorem gfL_law_X6_lay : GoodIn lw_tbl [Cond.methodLink RL 33 yX6_lay, Cond.instanceMethod yX6_lay, Cond.selects RX6 yX6_lay yX6_lay, Cond.initialized RX6] := dk_gIn (dk_memi [326, 327, 328, 50] (by decide +kernel)) (dk_all (by decide +kernel))
theorem gvL_law_X6_lay : GoodIn lw_tbl (wsV RL 33 RX6 yX6_lay vsX6_lay) := goodIn_app gfL_law_X6_lay (dk_gIn lw_vsX6_lay gd_vsX6_lay)
set_option maxRecDepth 20000 in
theorem gfL_law_X7_lay : GoodIn lw_tbl [Cond.methodLink RL 36 yX7_lay, Cond.instanceMethod yX7_lay, Cond.selects RX7 yX7_lay yX7_lay, Cond.initialized RX7] := dk_gIn (dk_memi [906, 907, 908, 57] (by decide +kernel)) (dk_all (by decide +kernel))
theorem gvL_law_X7_lay : GoodIn lw_tbl (wsV RL 36 RX7 yX7_lay vsX7_lay) := goodIn_app gfL_law_X7_lay (dk_gIn lw_vsX7_lay gd_vsX7_lay)
set_option maxRecDepth 20000 in
theorem gfL_law_X6_bare : GoodIn lw_tbl [Cond.methodLink RL 37 yX6_bare, Cond.instanceMethod yX6_bare, Cond.selects RX6 yX6_bare yX6_bare, Cond.initialized RX6] := dk_gIn (dk_memi [342, 343, 344, 50] (by decide +kernel)) (dk_all (by decide +kernel))
theorem gvL_law_X6_bare : GoodIn lw_tbl (wsV RL 37 RX6 yX6_bare vsX6_bare) := goodIn_app gfL_law_X6_bare (dk_gIn lw_vsX6_bare gd_vsX6_bare)
set_option maxRecDepth 20000 in
theorem gfL_law_X7_bare : GoodIn lw_tbl [Cond.methodLink RL 40 yX7_bare, Cond.instanceMethod yX7_bare, Cond.selects RX7 yX7_bare yX7_bare, Cond.initialized RX7] := dk_gIn (dk_memi [914, 915, 916, 57] (by decide +kernel)) (dk_all (by decide +kernel))
theorem gvL_law_X7_bare : GoodIn lw_tbl (wsV RL 40 RX7 yX7_bare vsX7_bare) := goodIn_app gfL_law_X7_bare (dk_gIn lw_vsX7_bare gd_vsX7_bare)
set_option maxRecDepth 20000 in
theorem gfL_law_X6_mirror : GoodIn lw_tbl [Cond.methodLink RL 41 yX6_mirror, Cond.instanceMethod yX6_mirror, Cond.selects RX6 yX6_mirror yX6_mirror, Cond.initialized RX6] := dk_gIn (dk_memi [346, 347, 348, 50] (by decide +kernel)) (dk_all (by decide +kernel))
theorem gvL_law_X6_mirror : GoodIn lw_tbl (wsV RL 41 RX6 yX6_mirror vsX6_mirror) := goodIn_app gfL_law_X6_mirror (dk_gIn lw_vsX6_mirror gd_vsX6_mirror)
set_option maxRecDepth 20000 in
theorem gfL_law_X7_mirror : GoodIn lw_tbl [Cond.methodLink RL 44 yX7_mirror, Cond.instanceMethod yX7_mirror, Cond.selects RX7 yX7_mirror yX7_mirror, Cond.initialized RX7] := dk_gIn (dk_memi [918, 919, 920, 57] (by decide +kernel)) (dk_all (by decide +kernel))
theorem gvL_law_X7_mirror : GoodIn lw_tbl (wsV RL 44 RX7 yX7_mirror vsX7_mirror) := goodIn_app gfL_law_X7_mirror (dk_gIn lw_vsX7_mirror gd_vsX7_mirror)
set_option maxRecDepth 20000 in
theorem gfL_law_X6_about : GoodIn lw_tbl [Cond.methodLink RL 45 yX6_about, Cond.instanceMethod yX6_about, Cond.selects RX6 yX6_about yX6_about, Cond.initialized RX6] := dk_gIn (dk_memi [354, 355, 356, 50] (by decide +kernel)) (dk_all (by decide +kernel))
theorem gvL_law_X6_about : GoodIn lw_tbl (wsV RL 45 RX6 yX6_about vsX6_about) := goodIn_app gfL_law_X6_about (dk_gIn lw_vsX6_about gd_vsX6_about)
set_option maxRecDepth 20000 in
theorem gfL_law_X7_about : GoodIn lw_tbl [Cond.methodLink RL 48 yX7_about, Cond.instanceMethod yX7_about, Cond.selects RX7 yX7_about yX7_about, Cond.initialized RX7] := dk_gIn (dk_memi [934, 935, 936, 57] (by decide +kernel)) (dk_all (by decide +kernel))
theorem gvL_law_X7_about : GoodIn lw_tbl (wsV RL 48 RX7 yX7_about vsX7_about) := goodIn_app gfL_law_X7_about (dk_gIn lw_vsX7_about gd_vsX7_about)
set_option maxRecDepth 20000 in
theorem gfL_law_X6_clear : GoodIn lw_tbl [Cond.methodLink RL 49 yX6_clear, Cond.instanceMethod yX6_clear, Cond.selects RX6 yX6_clear yX6_clear, Cond.initialized RX6] := dk_gIn (dk_memi [418, 419, 420, 50] (by decide +kernel)) (dk_all (by decide +kernel))
theorem gvL_law_X6_clear : GoodIn lw_tbl (wsV RL 49 RX6 yX6_clear vsX6_clear) := goodIn_app gfL_law_X6_clear (dk_gIn lw_vsX6_clear gd_vsX6_clear)
set_option maxRecDepth 20000 in
theorem gfL_law_X7_clear : GoodIn lw_tbl [Cond.methodLink RL 52 yX7_clear, Cond.instanceMethod yX7_clear, Cond.selects RX7 yX7_clear yX7_clear, Cond.initialized RX7] := dk_gIn (dk_memi [922, 923, 924, 57] (by decide +kernel)) (dk_all (by decide +kernel))
theorem gvL_law_X7_clear : GoodIn lw_tbl (wsV RL 52 RX7 yX7_clear vsX7_clear) := goodIn_app gfL_law_X7_clear (dk_gIn lw_vsX7_clear gd_vsX7_clear)
set_option maxRecDepth 20000 in
theorem gfL_law_X6_keep : GoodIn lw_tbl [Cond.methodLink RL 53 yX6_keep, Cond.instanceMethod yX6_keep, Cond.selects RX6 yX6_keep yX6_keep, Cond.initialized RX6] := dk_gIn (dk_memi [426, 427, 428, 50] (by decide +kernel)) (dk_all (by decide +kernel))
theorem gvL_law_X6_keep0 : GoodIn lw_tbl (wsV RL 53 RX6 yX6_keep vsX6_keep0) := goodIn_app gfL_law_X6_keep (dk_gIn lw_vsX6_keep0 gd_vsX6_keep0)
theorem gvL_law_X6_keep1 : GoodIn lw_tbl (wsV RL 53 RX6 yX6_keep vsX6_keep1) := goodIn_app gfL_law_X6_keep (dk_gIn lw_vsX6_keep1 gd_vsX6_keep1)
set_option maxRecDepth 20000 in
theorem gfL_law_X7_keep : GoodIn lw_tbl [Cond.methodLink RL 56 yX7_keep, Cond.instanceMethod yX7_keep, Cond.selects RX7 yX7_keep yX7_keep, Cond.initialized RX7] := dk_gIn (dk_memi [926, 927, 928, 57] (by decide +kernel)) (dk_all (by decide +kernel))
theorem gvL_law_X7_keep : GoodIn lw_tbl (wsV RL 56 RX7 yX7_keep vsX7_keep) := goodIn_app gfL_law_X7_keep (dk_gIn lw_vsX7_keep gd_vsX7_keep)
set_option maxRecDepth 20000 in
theorem gfL_law_X6_back : GoodIn lw_tbl [Cond.methodLink RL 57 yX6_back, Cond.instanceMethod yX6_back, Cond.selects RX6 yX6_back yX6_back, Cond.initialized RX6] := dk_gIn (dk_memi [437, 438, 439, 50] (by decide +kernel)) (dk_all (by decide +kernel))
theorem gvL_law_X6_back0 : GoodIn lw_tbl (wsV RL 57 RX6 yX6_back vsX6_back0) := goodIn_app gfL_law_X6_back (dk_gIn lw_vsX6_back0 gd_vsX6_back0)
theorem gvL_law_X6_back1 : GoodIn lw_tbl (wsV RL 57 RX6 yX6_back vsX6_back1) := goodIn_app gfL_law_X6_back (dk_gIn lw_vsX6_back1 gd_vsX6_back1)
set_option maxRecDepth 20000 in
theorem gfL_law_X7_back : GoodIn lw_tbl [Cond.methodLink RL 60 yX7_back, Cond.instanceMethod yX7_back, Cond.selects RX7 yX7_back yX7_back, Cond.initialized RX7] := dk_gIn (dk_memi [930, 931, 932, 57] (by decide +kernel)) (dk_all (by decide +kernel))
theorem gvL_law_X7_back : GoodIn lw_tbl (wsV RL 60 RX7 yX7_back vsX7_back) := goodIn_app gfL_law_X7_back (dk_gIn lw_vsX7_back gd_vsX7_back)
set_option maxRecDepth 20000 in
theorem gfL_law_X6_cause : GoodIn lw_tbl [Cond.methodLink RL 61 yX6_cause, Cond.instanceMethod yX6_cause, Cond.selects RX6 yX6_cause yX6_cause, Cond.initialized RX6] := dk_gIn (dk_memi [441, 442, 443, 50] (by decide +kernel)) (dk_all (by decide +kernel))
theorem gvL_law_X6_cause : GoodIn lw_tbl (wsV RL 61 RX6 yX6_cause vsX6_cause) := goodIn_app gfL_law_X6_cause (dk_gIn lw_vsX6_cause gd_vsX6_cause)
set_option maxRecDepth 20000 in
theorem gfL_law_X7_cause : GoodIn lw_tbl [Cond.methodLink RL 64 yX7_cause, Cond.instanceMethod yX7_cause, Cond.selects RX7 yX7_cause yX7_cause, Cond.initialized RX7] := dk_gIn (dk_memi [989, 990, 991, 57] (by decide +kernel)) (dk_all (by decide +kernel))
theorem gvL_law_X7_cause : GoodIn lw_tbl (wsV RL 64 RX7 yX7_cause vsX7_cause) := goodIn_app gfL_law_X7_cause (dk_gIn lw_vsX7_cause gd_vsX7_cause)
set_option maxRecDepth 20000 in
theorem gfL_law_X6_of : GoodIn lw_tbl [Cond.methodLink RL 65 yX6_of, Cond.instanceMethod yX6_of, Cond.selects RX6 yX6_of yX6_of, Cond.initialized RX6] := dk_gIn (dk_memi [445, 446, 447, 50] (by decide +kernel)) (dk_all (by decide +kernel))
theorem gvL_law_X6_of : GoodIn lw_tbl (wsV RL 65 RX6 yX6_of vsX6_of) := goodIn_app gfL_law_X6_of (dk_gIn lw_vsX6_of gd_vsX6_of)
set_option maxRecDepth 20000 in
theorem gfL_law_X7_of : GoodIn lw_tbl [Cond.methodLink RL 68 yX7_of, Cond.instanceMethod yX7_of, Cond.selects RX7 yX7_of yX7_of, Cond.initialized RX7] := dk_gIn (dk_memi [993, 994, 995, 57] (by decide +kernel)) (dk_all (by decide +kernel))
theorem gvL_law_X7_of : GoodIn lw_tbl (wsV RL 68 RX7 yX7_of vsX7_of) := goodIn_app gfL_law_X7_of (dk_gIn lw_vsX7_of gd_vsX7_of)
set_option maxRecDepth 20000 in
theorem gfL_law_X6_turn : GoodIn lw_tbl [Cond.methodLink RL 69 yX6_turn, Cond.instanceMethod yX6_turn, Cond.selects RX6 yX6_turn yX6_turn, Cond.initialized RX6] := dk_gIn (dk_memi [449, 450, 451, 50] (by decide +kernel)) (dk_all (by decide +kernel))
theorem gvL_law_X6_turn : GoodIn lw_tbl (wsV RL 69 RX6 yX6_turn vsX6_turn) := goodIn_app gfL_law_X6_turn (dk_gIn lw_vsX6_turn gd_vsX6_turn)
set_option maxRecDepth 20000 in
theorem gfL_law_X7_turn : GoodIn lw_tbl [Cond.methodLink RL 72 yX7_turn, Cond.instanceMethod yX7_turn, Cond.selects RX7 yX7_turn yX7_turn, Cond.initialized RX7] := dk_gIn (dk_memi [997, 998, 999, 57] (by decide +kernel)) (dk_all (by decide +kernel))
theorem gvL_law_X7_turn : GoodIn lw_tbl (wsV RL 72 RX7 yX7_turn vsX7_turn) := goodIn_app gfL_law_X7_turn (dk_gIn lw_vsX7_turn gd_vsX7_turn)
set_option maxRecDepth 20000 in
theorem gfL_law_X6_faces : GoodIn lw_tbl [Cond.methodLink RL 73 yX6_faces, Cond.instanceMethod yX6_faces, Cond.selects RX6 yX6_faces yX6_faces, Cond.initialized RX6] := dk_gIn (dk_memi [454, 455, 456, 50] (by decide +kernel)) (dk_all (by decide +kernel))
theorem gvL_law_X6_faces : GoodIn lw_tbl (wsV RL 73 RX6 yX6_faces vsX6_faces) := goodIn_app gfL_law_X6_faces (dk_gIn lw_vsX6_faces gd_vsX6_faces)
set_option maxRecDepth 20000 in
theorem gfL_law_X7_faces : GoodIn lw_tbl [Cond.methodLink RL 76 yX7_faces, Cond.instanceMethod yX7_faces, Cond.selects RX7 yX7_faces yX7_faces, Cond.initialized RX7] := dk_gIn (dk_memi [1001, 1002, 1003, 57] (by decide +kernel)) (dk_all (by decide +kernel))
theorem gvL_law_X7_faces : GoodIn lw_tbl (wsV RL 76 RX7 yX7_faces vsX7_faces) := goodIn_app gfL_law_X7_faces (dk_gIn lw_vsX7_faces gd_vsX7_faces)
set_option maxRecDepth 20000 in
theorem gfL_law_X6_face : GoodIn lw_tbl [Cond.methodLink RL 77 yX6_face, Cond.instanceMethod yX6_face, Cond.selects RX6 yX6_face yX6_face, Cond.initialized RX6] := dk_gIn (dk_memi [458, 459, 460, 50] (by decide +kernel)) (dk_all (by decide +kernel))
theorem gvL_law_X6_face : GoodIn lw_tbl (wsV RL 77 RX6 yX6_face vsX6_face) := goodIn_app gfL_law_X6_face (dk_gIn lw_vsX6_face gd_vsX6_face)
set_option maxRecDepth 20000 in
theorem gfL_law_X7_face : GoodIn lw_tbl [Cond.methodLink RL 80 yX7_face, Cond.instanceMethod yX7_face, Cond.selects RX7 yX7_face yX7_face, Cond.initialized RX7] := dk_gIn (dk_memi [1005, 1006, 1007, 57] (by decide +kernel)) (dk_all (by decide +kernel))
theorem gvL_law_X7_face : GoodIn lw_tbl (wsV RL 80 RX7 yX7_face vsX7_face) := goodIn_app gfL_law_X7_face (dk_gIn lw_vsX7_face gd_vsX7_face)
set_option maxRecDepth 20000 in
theorem gfL_law_X6_trees : GoodIn lw_tbl [Cond.methodLink RL 81 yX6_trees, Cond.instanceMethod yX6_trees, Cond.selects RX6 yX6_trees yX6_trees, Cond.initialized RX6] := dk_gIn (dk_memi [462, 463, 464, 50] (by decide +kernel)) (dk_all (by decide +kernel))
theorem gvL_law_X6_trees : GoodIn lw_tbl (wsV RL 81 RX6 yX6_trees vsX6_trees) := goodIn_app gfL_law_X6_trees (dk_gIn lw_vsX6_trees gd_vsX6_trees)
set_option maxRecDepth 20000 in
theorem gfL_law_X7_trees : GoodIn lw_tbl [Cond.methodLink RL 85 yX7_trees, Cond.instanceMethod yX7_trees, Cond.selects RX7 yX7_trees yX7_trees, Cond.initialized RX7] := dk_gIn (dk_memi [1009, 1010, 1011, 57] (by decide +kernel)) (dk_all (by decide +kernel))
theorem gvL_law_X7_trees : GoodIn lw_tbl (wsV RL 85 RX7 yX7_trees vsX7_trees) := goodIn_app gfL_law_X7_trees (dk_gIn lw_vsX7_trees gd_vsX7_trees)
set_option maxRecDepth 20000 in
theorem gfL_law_X6_current : GoodIn lw_tbl [Cond.methodLink RL 86 yX6_current, Cond.instanceMethod yX6_current, Cond.selects RX6 yX6_current yX6_current, Cond.initialized RX6] := dk_gIn (dk_memi [517, 518, 519, 50] (by decide +kernel)) (dk_all (by decide +kernel))
theorem gvL_law_X6_current : GoodIn lw_tbl (wsV RL 86 RX6 yX6_current vsX6_current) := goodIn_app gfL_law_X6_current (dk_gIn lw_vsX6_current gd_vsX6_current)
set_option maxRecDepth 20000 in
theorem gfL_law_X7_current : GoodIn lw_tbl [Cond.methodLink RL 89 yX7_current, Cond.instanceMethod yX7_current, Cond.selects RX7 yX7_current yX7_current, Cond.initialized RX7] := dk_gIn (dk_memi [1014, 1015, 1016, 57] (by decide +kernel)) (dk_all (by decide +kernel))
theorem gvL_law_X7_current : GoodIn lw_tbl (wsV RL 89 RX7 yX7_current vsX7_current) := goodIn_app gfL_law_X7_current (dk_gIn lw_vsX7_current gd_vsX7_current)
set_option maxRecDepth 20000 in
theorem gfL_law_X6_height : GoodIn lw_tbl [Cond.methodLink RL 90 yX6_height, Cond.instanceMethod yX6_height, Cond.selects RX6 yX6_height yX6_height, Cond.initialized RX6] := dk_gIn (dk_memi [521, 522, 523, 50] (by decide +kernel)) (dk_all (by decide +kernel))
theorem gvL_law_X6_height : GoodIn lw_tbl (wsV RL 90 RX6 yX6_height vsX6_height) := goodIn_app gfL_law_X6_height (dk_gIn lw_vsX6_height gd_vsX6_height)
set_option maxRecDepth 20000 in
theorem gfL_law_X7_height : GoodIn lw_tbl [Cond.methodLink RL 93 yX7_height, Cond.instanceMethod yX7_height, Cond.selects RX7 yX7_height yX7_height, Cond.initialized RX7] := dk_gIn (dk_memi [1018, 1019, 1020, 57] (by decide +kernel)) (dk_all (by decide +kernel))
theorem gvL_law_X7_height : GoodIn lw_tbl (wsV RL 93 RX7 yX7_height vsX7_height) := goodIn_app gfL_law_X7_height (dk_gIn lw_vsX7_height gd_vsX7_height)
set_option maxRecDepth 20000 in
theorem gfL_law_X6_place : GoodIn lw_tbl [Cond.methodLink RL 94 yX6_place, Cond.instanceMethod yX6_place, Cond.selects RX6 yX6_place yX6_place, Cond.initialized RX6] := dk_gIn (dk_memi [525, 526, 527, 50] (by decide +kernel)) (dk_all (by decide +kernel))
theorem gvL_law_X6_place : GoodIn lw_tbl (wsV RL 94 RX6 yX6_place vsX6_place) := goodIn_app gfL_law_X6_place (dk_gIn lw_vsX6_place gd_vsX6_place)
set_option maxRecDepth 20000 in
theorem gfL_law_X7_place : GoodIn lw_tbl [Cond.methodLink RL 97 yX7_place, Cond.instanceMethod yX7_place, Cond.selects RX7 yX7_place yX7_place, Cond.initialized RX7] := dk_gIn (dk_memi [1022, 1023, 1024, 57] (by decide +kernel)) (dk_all (by decide +kernel))
theorem gvL_law_X7_place : GoodIn lw_tbl (wsV RL 97 RX7 yX7_place vsX7_place) := goodIn_app gfL_law_X7_place (dk_gIn lw_vsX7_place gd_vsX7_place)
set_option maxRecDepth 20000 in
theorem gfL_law_X6_rectangle : GoodIn lw_tbl [Cond.methodLink RL 98 yX6_rectangle, Cond.instanceMethod yX6_rectangle, Cond.selects RX6 yX6_rectangle yX6_rectangle, Cond.initialized RX6] := dk_gIn (dk_memi [529, 530, 531, 50] (by decide +kernel)) (dk_all (by decide +kernel))
theorem gvL_law_X6_rectangle : GoodIn lw_tbl (wsV RL 98 RX6 yX6_rectangle vsX6_rectangle) := goodIn_app gfL_law_X6_rectangle (dk_gIn lw_vsX6_rectangle gd_vsX6_rectangle)
set_option maxRecDepth 20000 in
theorem gfL_law_X7_rectangle : GoodIn lw_tbl [Cond.methodLink RL 101 yX7_rectangle, Cond.instanceMethod yX7_rectangle, Cond.selects RX7 yX7_rectangle yX7_rectangle, Cond.initialized RX7] := dk_gIn (dk_memi [1026, 1027, 1028, 57] (by decide +kernel)) (dk_all (by decide +kernel))
theorem gvL_law_X7_rectangle : GoodIn lw_tbl (wsV RL 101 RX7 yX7_rectangle vsX7_rectangle) := goodIn_app gfL_law_X7_rectangle (dk_gIn lw_vsX7_rectangle gd_vsX7_rectangle)
set_option maxRecDepth 20000 in
theorem gfL_law_X6_square : GoodIn lw_tbl [Cond.methodLink RL 102 yX6_square, Cond.instanceMethod yX6_square, Cond.selects RX6 yX6_square yX6_square, Cond.initialized RX6] := dk_gIn (dk_memi [588, 589, 590, 50] (by decide +kernel)) (dk_all (by decide +kernel))
theorem gvL_law_X6_square : GoodIn lw_tbl (wsV RL 102 RX6 yX6_square vsX6_square) := goodIn_app gfL_law_X6_square (dk_gIn lw_vsX6_square gd_vsX6_square)
set_option maxRecDepth 20000 in
theorem gfL_law_X7_square : GoodIn lw_tbl [Cond.methodLink RL 105 yX7_square, Cond.instanceMethod yX7_square, Cond.selects RX7 yX7_square yX7_square, Cond.initialized RX7] := dk_gIn (dk_memi [1066, 1067, 1068, 57] (by decide +kernel)) (dk_all (by decide +kernel))
theorem gvL_law_X7_square : GoodIn lw_tbl (wsV RL 105 RX7 yX7_square vsX7_square) := goodIn_app gfL_law_X7_square (dk_gIn lw_vsX7_square gd_vsX7_square)
set_option maxRecDepth 20000 in
theorem gfL_law_X6_within : GoodIn lw_tbl [Cond.methodLink RL 106 yX6_within, Cond.instanceMethod yX6_within, Cond.selects RX6 yX6_within yX6_within, Cond.initialized RX6] := dk_gIn (dk_memi [600, 601, 602, 50] (by decide +kernel)) (dk_all (by decide +kernel))
theorem gvL_law_X6_within : GoodIn lw_tbl (wsV RL 106 RX6 yX6_within vsX6_within) := goodIn_app gfL_law_X6_within (dk_gIn lw_vsX6_within gd_vsX6_within)
set_option maxRecDepth 20000 in
theorem gfL_law_X7_within : GoodIn lw_tbl [Cond.methodLink RL 109 yX7_within, Cond.instanceMethod yX7_within, Cond.selects RX7 yX7_within yX7_within, Cond.initialized RX7] := dk_gIn (dk_memi [1070, 1071, 1072, 57] (by decide +kernel)) (dk_all (by decide +kernel))
theorem gvL_law_X7_within : GoodIn lw_tbl (wsV RL 109 RX7 yX7_within vsX7_within) := goodIn_app gfL_law_X7_within (dk_gIn lw_vsX7_within gd_vsX7_within)
set_option maxRecDepth 20000 in
theorem gfL_law_X6_at : GoodIn lw_tbl [Cond.methodLink RL 110 yX6_at, Cond.instanceMethod yX6_at, Cond.selects RX6 yX6_at yX6_at, Cond.initialized RX6] := dk_gIn (dk_memi [608, 609, 610, 50] (by decide +kernel)) (dk_all (by decide +kernel))
theorem gvL_law_X6_at : GoodIn lw_tbl (wsV RL 110 RX6 yX6_at vsX6_at) := goodIn_app gfL_law_X6_at (dk_gIn lw_vsX6_at gd_vsX6_at)
set_option maxRecDepth 20000 in
theorem gfL_law_X7_at : GoodIn lw_tbl [Cond.methodLink RL 113 yX7_at, Cond.instanceMethod yX7_at, Cond.selects RX7 yX7_at yX7_at, Cond.initialized RX7] := dk_gIn (dk_memi [1074, 1075, 1076, 57] (by decide +kernel)) (dk_all (by decide +kernel))
theorem gvL_law_X7_at : GoodIn lw_tbl (wsV RL 113 RX7 yX7_at vsX7_at) := goodIn_app gfL_law_X7_at (dk_gIn lw_vsX7_at gd_vsX7_at)
set_option maxRecDepth 20000 in
theorem gfL_law_X6_tell : GoodIn lw_tbl [Cond.methodLink RL 114 yX6_tell, Cond.instanceMethod yX6_tell, Cond.selects RX6 yX6_tell yX6_tell, Cond.initialized RX6] := dk_gIn (dk_memi [622, 623, 624, 50] (by decide +kernel)) (dk_all (by decide +kernel))
theorem gvL_law_X6_tell : GoodIn lw_tbl (wsV RL 114 RX6 yX6_tell vsX6_tell) := goodIn_app gfL_law_X6_tell (dk_gIn lw_vsX6_tell gd_vsX6_tell)
set_option maxRecDepth 20000 in
theorem gfL_law_X7_tell : GoodIn lw_tbl [Cond.methodLink RL 118 yX7_tell, Cond.instanceMethod yX7_tell, Cond.selects RX7 yX7_tell yX7_tell, Cond.initialized RX7] := dk_gIn (dk_memi [1078, 1079, 1080, 57] (by decide +kernel)) (dk_all (by decide +kernel))
theorem gvL_law_X7_tell : GoodIn lw_tbl (wsV RL 118 RX7 yX7_tell vsX7_tell) := goodIn_app gfL_law_X7_tell (dk_gIn lw_vsX7_tell gd_vsX7_tell)
set_option maxRecDepth 20000 in
theorem gfL_law_X6_alter : GoodIn lw_tbl [Cond.methodLink RL 119 yX6_alter, Cond.instanceMethod yX6_alter, Cond.selects RX6 yX6_alter yX6_alter, Cond.initialized RX6] := dk_gIn (dk_memi [631, 632, 633, 50] (by decide +kernel)) (dk_all (by decide +kernel))
theorem gvL_law_X6_alter : GoodIn lw_tbl (wsV RL 119 RX6 yX6_alter vsX6_alter) := goodIn_app gfL_law_X6_alter (dk_gIn lw_vsX6_alter gd_vsX6_alter)
set_option maxRecDepth 20000 in
theorem gfL_law_X7_alter : GoodIn lw_tbl [Cond.methodLink RL 122 yX7_alter, Cond.instanceMethod yX7_alter, Cond.selects RX7 yX7_alter yX7_alter, Cond.initialized RX7] := dk_gIn (dk_memi [1086, 1087, 1088, 57] (by decide +kernel)) (dk_all (by decide +kernel))
theorem gvL_law_X7_alter : GoodIn lw_tbl (wsV RL 122 RX7 yX7_alter vsX7_alter) := goodIn_app gfL_law_X7_alter (dk_gIn lw_vsX7_alter gd_vsX7_alter)
set_option maxRecDepth 20000 in
theorem gfL_law_X6_hush : GoodIn lw_tbl [Cond.methodLink RL 123 yX6_hush, Cond.instanceMethod yX6_hush, Cond.selects RX6 yX6_hush yX6_hush, Cond.initialized RX6] := dk_gIn (dk_memi [639, 640, 641, 50] (by decide +kernel)) (dk_all (by decide +kernel))
theorem gvL_law_X6_hush : GoodIn lw_tbl (wsV RL 123 RX6 yX6_hush vsX6_hush) := goodIn_app gfL_law_X6_hush (dk_gIn lw_vsX6_hush gd_vsX6_hush)
set_option maxRecDepth 20000 in
theorem gfL_law_X7_hush : GoodIn lw_tbl [Cond.methodLink RL 126 yX7_hush, Cond.instanceMethod yX7_hush, Cond.selects RX7 yX7_hush yX7_hush, Cond.initialized RX7] := dk_gIn (dk_memi [1090, 1091, 1092, 57] (by decide +kernel)) (dk_all (by decide +kernel))
theorem gvL_law_X7_hush : GoodIn lw_tbl (wsV RL 126 RX7 yX7_hush vsX7_hush) := goodIn_app gfL_law_X7_hush (dk_gIn lw_vsX7_hush gd_vsX7_hush)
set_option maxRecDepth 20000 in
theorem gfL_law_X6_copy : GoodIn lw_tbl [Cond.methodLink RL 127 yX6_copy, Cond.instanceMethod yX6_copy, Cond.selects RX6 yX6_copy yX6_copy, Cond.initialized RX6] := dk_gIn (dk_memi [643, 644, 645, 50] (by decide +kernel)) (dk_all (by decide +kernel))
theorem gvL_law_X6_copy : GoodIn lw_tbl (wsV RL 127 RX6 yX6_copy vsX6_copy) := goodIn_app gfL_law_X6_copy (dk_gIn lw_vsX6_copy gd_vsX6_copy)
set_option maxRecDepth 20000 in
theorem gfL_law_X7_copy : GoodIn lw_tbl [Cond.methodLink RL 130 yX7_copy, Cond.instanceMethod yX7_copy, Cond.selects RX7 yX7_copy yX7_copy, Cond.initialized RX7] := dk_gIn (dk_memi [1094, 1095, 1096, 57] (by decide +kernel)) (dk_all (by decide +kernel))
theorem gvL_law_X7_copy : GoodIn lw_tbl (wsV RL 130 RX7 yX7_copy vsX7_copy) := goodIn_app gfL_law_X7_copy (dk_gIn lw_vsX7_copy gd_vsX7_copy)
set_option maxRecDepth 20000 in
theorem gfL_law_X6_fit : GoodIn lw_tbl [Cond.methodLink RL 131 yX6_fit, Cond.instanceMethod yX6_fit, Cond.selects RX6 yX6_fit yX6_fit, Cond.initialized RX6] := dk_gIn (dk_memi [652, 653, 654, 50] (by decide +kernel)) (dk_all (by decide +kernel))
theorem gvL_law_X6_fit : GoodIn lw_tbl (wsV RL 131 RX6 yX6_fit vsX6_fit) := goodIn_app gfL_law_X6_fit (dk_gIn lw_vsX6_fit gd_vsX6_fit)
set_option maxRecDepth 20000 in
theorem gfL_law_X7_fit : GoodIn lw_tbl [Cond.methodLink RL 134 yX7_fit, Cond.instanceMethod yX7_fit, Cond.selects RX7 yX7_fit yX7_fit, Cond.initialized RX7] := dk_gIn (dk_memi [1098, 1099, 1100, 57] (by decide +kernel)) (dk_all (by decide +kernel))
theorem gvL_law_X7_fit : GoodIn lw_tbl (wsV RL 134 RX7 yX7_fit vsX7_fit) := goodIn_app gfL_law_X7_fit (dk_gIn lw_vsX7_fit gd_vsX7_fit)
set_option maxRecDepth 20000 in
theorem gfL_law_X6_read : GoodIn lw_tbl [Cond.methodLink RL 135 yX6_read, Cond.instanceMethod yX6_read, Cond.selects RX6 yX6_read yX6_read, Cond.initialized RX6] := dk_gIn (dk_memi [673, 674, 675, 50] (by decide +kernel)) (dk_all (by decide +kernel))
theorem gvL_law_X6_read : GoodIn lw_tbl (wsV RL 135 RX6 yX6_read vsX6_read) := goodIn_app gfL_law_X6_read (dk_gIn lw_vsX6_read gd_vsX6_read)
set_option maxRecDepth 20000 in
theorem gfL_law_X7_read : GoodIn lw_tbl [Cond.methodLink RL 138 yX7_read, Cond.instanceMethod yX7_read, Cond.selects RX7 yX7_read yX7_read, Cond.initialized RX7] := dk_gIn (dk_memi [1106, 1107, 1108, 57] (by decide +kernel)) (dk_all (by decide +kernel))
theorem gvL_law_X7_read : GoodIn lw_tbl (wsV RL 138 RX7 yX7_read vsX7_read) := goodIn_app gfL_law_X7_read (dk_gIn lw_vsX7_read gd_vsX7_read)
set_option maxRecDepth 20000 in
theorem gfL_law_X6_claim : GoodIn lw_tbl [Cond.methodLink RL 139 yX6_claim, Cond.instanceMethod yX6_claim, Cond.selects RX6 yX6_claim yX6_claim, Cond.initialized RX6] := dk_gIn (dk_memi [709, 710, 711, 50] (by decide +kernel)) (dk_all (by decide +kernel))
theorem gvL_law_X6_claim : GoodIn lw_tbl (wsV RL 139 RX6 yX6_claim vsX6_claim) := goodIn_app gfL_law_X6_claim (dk_gIn lw_vsX6_claim gd_vsX6_claim)
set_option maxRecDepth 20000 in
theorem gfL_law_X7_claim : GoodIn lw_tbl [Cond.methodLink RL 142 yX7_claim, Cond.instanceMethod yX7_claim, Cond.selects RX7 yX7_claim yX7_claim, Cond.initialized RX7] := dk_gIn (dk_memi [1124, 1125, 1126, 57] (by decide +kernel)) (dk_all (by decide +kernel))
theorem gvL_law_X7_claim : GoodIn lw_tbl (wsV RL 142 RX7 yX7_claim vsX7_claim) := goodIn_app gfL_law_X7_claim (dk_gIn lw_vsX7_claim gd_vsX7_claim)
set_option maxRecDepth 20000 in
theorem gfL_law_X6_raise : GoodIn lw_tbl [Cond.methodLink RL 143 yX6_raise, Cond.instanceMethod yX6_raise, Cond.selects RX6 yX6_raise yX6_raise, Cond.initialized RX6] := dk_gIn (dk_memi [718, 719, 720, 50] (by decide +kernel)) (dk_all (by decide +kernel))
theorem gvL_law_X6_raise : GoodIn lw_tbl (wsV RL 143 RX6 yX6_raise vsX6_raise) := goodIn_app gfL_law_X6_raise (dk_gIn lw_vsX6_raise gd_vsX6_raise)
set_option maxRecDepth 20000 in
theorem gfL_law_X7_raise : GoodIn lw_tbl [Cond.methodLink RL 146 yX7_raise, Cond.instanceMethod yX7_raise, Cond.selects RX7 yX7_raise yX7_raise, Cond.initialized RX7] := dk_gIn (dk_memi [1133, 1134, 1135, 57] (by decide +kernel)) (dk_all (by decide +kernel))
theorem gvL_law_X7_raise : GoodIn lw_tbl (wsV RL 146 RX7 yX7_raise vsX7_raise) := goodIn_app gfL_law_X7_raise (dk_gIn lw_vsX7_raise gd_vsX7_raise)
set_option maxRecDepth 20000 in
theorem gfL_law_X6_grant : GoodIn lw_tbl [Cond.methodLink RL 147 yX6_grant, Cond.instanceMethod yX6_grant, Cond.selects RX6 yX6_grant yX6_grant, Cond.initialized RX6] := dk_gIn (dk_memi [722, 723, 724, 50] (by decide +kernel)) (dk_all (by decide +kernel))
theorem gvL_law_X6_grant : GoodIn lw_tbl (wsV RL 147 RX6 yX6_grant vsX6_grant) := goodIn_app gfL_law_X6_grant (dk_gIn lw_vsX6_grant gd_vsX6_grant)
set_option maxRecDepth 20000 in
theorem gfL_law_X7_grant : GoodIn lw_tbl [Cond.methodLink RL 150 yX7_grant, Cond.instanceMethod yX7_grant, Cond.selects RX7 yX7_grant yX7_grant, Cond.initialized RX7] := dk_gIn (dk_memi [1137, 1138, 1139, 57] (by decide +kernel)) (dk_all (by decide +kernel))
theorem gvL_law_X7_grant : GoodIn lw_tbl (wsV RL 150 RX7 yX7_grant vsX7_grant) := goodIn_app gfL_law_X7_grant (dk_gIn lw_vsX7_grant gd_vsX7_grant)
set_option maxRecDepth 20000 in
theorem gfL_law_X6_judge : GoodIn lw_tbl [Cond.methodLink RL 151 yX6_judge, Cond.instanceMethod yX6_judge, Cond.selects RX6 yX6_judge yX6_judge, Cond.initialized RX6] := dk_gIn (dk_memi [726, 727, 728, 50] (by decide +kernel)) (dk_all (by decide +kernel))
theorem gvL_law_X6_judge : GoodIn lw_tbl (wsV RL 151 RX6 yX6_judge vsX6_judge) := goodIn_app gfL_law_X6_judge (dk_gIn lw_vsX6_judge gd_vsX6_judge)
set_option maxRecDepth 20000 in
theorem gfL_law_X7_judge : GoodIn lw_tbl [Cond.methodLink RL 154 yX7_judge, Cond.instanceMethod yX7_judge, Cond.selects RX7 yX7_judge yX7_judge, Cond.initialized RX7] := dk_gIn (dk_memi [1141, 1142, 1143, 57] (by decide +kernel)) (dk_all (by decide +kernel))
theorem gvL_law_X7_judge : GoodIn lw_tbl (wsV RL 154 RX7 yX7_judge vsX7_judge) := goodIn_app gfL_law_X7_judge (dk_gIn lw_vsX7_judge gd_vsX7_judge)
set_option maxRecDepth 20000 in
theorem gfL_law_X6_count : GoodIn lw_tbl [Cond.methodLink RL 155 yX6_count, Cond.instanceMethod yX6_count, Cond.selects RX6 yX6_count yX6_count, Cond.initialized RX6] := dk_gIn (dk_memi [747, 748, 749, 50] (by decide +kernel)) (dk_all (by decide +kernel))
theorem gvL_law_X6_count : GoodIn lw_tbl (wsV RL 155 RX6 yX6_count vsX6_count) := goodIn_app gfL_law_X6_count (dk_gIn lw_vsX6_count gd_vsX6_count)
set_option maxRecDepth 20000 in
theorem gfL_law_X7_count : GoodIn lw_tbl [Cond.methodLink RL 158 yX7_count, Cond.instanceMethod yX7_count, Cond.selects RX7 yX7_count yX7_count, Cond.initialized RX7] := dk_gIn (dk_memi [1145, 1146, 1147, 57] (by decide +kernel)) (dk_all (by decide +kernel))
theorem gvL_law_X7_count : GoodIn lw_tbl (wsV RL 158 RX7 yX7_count vsX7_count) := goodIn_app gfL_law_X7_count (dk_gIn lw_vsX7_count gd_vsX7_count)
theorem dk_Nk_start {args : Array Value} {s : State} (hts : ∀ w ∈ lw_tbl, w.before args s = true) : dk_Nk s := by
  intro q hq
  have e : q = (RX6, 11, yX4_init) ∨ q = (RX6, 21, yX0_init) ∨ q = (RX6, 28, yX1_init) ∨ q = (RX6, 35, yX2_init) ∨ q = (RX6, 42, yX5_init) ∨ q = (RX6, 49, yX3_init) ∨ q = (RX2, 11, yX5_init) := by simpa [dk_nest] using hq
  rcases e with rfl | rfl | rfl | rfl | rfl | rfl | rfl
  · exact va_Nw.of rfl (hts _ qL_ne0)
  · exact va_Nw.of rfl (hts _ qL_ne1)
  · exact va_Nw.of rfl (hts _ qL_ne2)
  · exact va_Nw.of rfl (hts _ qL_ne3)
  · exact va_Nw.of rfl (hts _ qL_ne4)
  · exact va_Nw.of rfl (hts _ qL_ne5)
  · exact va_Nw.of rfl (hts _ qL_ne6)
theorem dk_arrI {args : Array Value} {s : State} (h : (Cond.arrayClass .int).before args s = true) : ∃ cA : ClassId, ArrOfT s cA .int ∧ va_RA s cA .int := by
  obtain ⟨cA, kA, comp, hfind, hk, hkind⟩ := Cond.arrayClass_spec h
  exact ⟨cA, fun n z => ⟨fun k h => (by cases h), kA, hk, comp, hkind⟩, hfind⟩
theorem dk_arrJ {args : Array Value} {s : State} (h : (Cond.arrayClass .long).before args s = true) : ∃ cA : ClassId, ArrOfT s cA .long ∧ va_RA s cA .long := by
  obtain ⟨cA, kA, comp, hfind, hk, hkind⟩ := Cond.arrayClass_spec h
  exact ⟨cA, fun n z => ⟨fun k h => (by cases h), kA, hk, comp, hkind⟩, hfind⟩
theorem dk_arrZ {args : Array Value} {s : State} (h : (Cond.arrayClass .boolean).before args s = true) : ∃ cA : ClassId, ArrOfT s cA .boolean ∧ va_RA s cA .boolean := by
  obtain ⟨cA, kA, comp, hfind, hk, hkind⟩ := Cond.arrayClass_spec h
  exact ⟨cA, fun n z => ⟨fun k h => (by cases h), kA, hk, comp, hkind⟩, hfind⟩
theorem dk_lcmp {x y : Int64} (h : x = y) : lg_cmp x y = 0 := by
  subst h
  unfold lg_cmp
  rw [if_neg (by simp), if_pos rfl]
