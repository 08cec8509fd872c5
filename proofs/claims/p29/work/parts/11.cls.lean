/-! the classes' tables, and those of the exceptions -/
theorem jlays0 : ∀ w ∈ u_ws RX0 TX0 7, w ∈ lw_W := List.forall_mem_cons.mpr ⟨List.mem_filter.mpr ⟨List.mem_of_getElem? (i := 183) (by decide +kernel), by decide +kernel⟩, List.forall_mem_cons.mpr ⟨List.mem_filter.mpr ⟨List.mem_of_getElem? (i := 185) (by decide +kernel), by decide +kernel⟩, List.forall_mem_cons.mpr ⟨List.mem_filter.mpr ⟨List.mem_of_getElem? (i := 187) (by decide +kernel), by decide +kernel⟩, List.forall_mem_cons.mpr ⟨List.mem_filter.mpr ⟨List.mem_of_getElem? (i := 189) (by decide +kernel), by decide +kernel⟩, List.forall_mem_cons.mpr ⟨List.mem_filter.mpr ⟨List.mem_of_getElem? (i := 191) (by decide +kernel), by decide +kernel⟩, List.forall_mem_cons.mpr ⟨List.mem_filter.mpr ⟨List.mem_of_getElem? (i := 193) (by decide +kernel), by decide +kernel⟩, List.forall_mem_cons.mpr ⟨List.mem_filter.mpr ⟨List.mem_of_getElem? (i := 195) (by decide +kernel), by decide +kernel⟩, fun _ h => nomatch h⟩⟩⟩⟩⟩⟩⟩
theorem jcls0 : jcls 0 (RX0, TX0, 7) := ⟨jlays0, rfl, tyX0_ok, nmX0, by decide +kernel, fun k hk => by
  have hk : k < 7 := hk
  rcases (show k = 0 ∨ k = 1 ∨ k = 2 ∨ k = 3 ∨ k = 4 ∨ k = 5 ∨ k = 6 by omega) with rfl | rfl | rfl | rfl | rfl | rfl | rfl
  · exact ⟨fun h => (by cases h), fun _ => ⟨rfl, Or.inr ⟨_, rfl⟩⟩⟩
  · exact ⟨fun _ => ⟨rfl, rfl⟩, fun h => (by cases h)⟩
  · exact ⟨fun h => (by cases h), fun _ => ⟨rfl, Or.inr ⟨_, rfl⟩⟩⟩
  · exact ⟨fun h => (by cases h), fun _ => ⟨rfl, Or.inr ⟨_, rfl⟩⟩⟩
  · exact ⟨fun h => (by cases h), fun _ => ⟨rfl, Or.inr ⟨_, rfl⟩⟩⟩
  · exact ⟨fun _ => ⟨rfl, rfl⟩, fun h => (by cases h)⟩
  · exact ⟨fun _ => ⟨rfl, rfl⟩, fun h => (by cases h)⟩⟩
theorem jlays1 : ∀ w ∈ u_ws RX1 TX1 3, w ∈ lw_W := List.forall_mem_cons.mpr ⟨List.mem_filter.mpr ⟨List.mem_of_getElem? (i := 166) (by decide +kernel), by decide +kernel⟩, List.forall_mem_cons.mpr ⟨List.mem_filter.mpr ⟨List.mem_of_getElem? (i := 168) (by decide +kernel), by decide +kernel⟩, List.forall_mem_cons.mpr ⟨List.mem_filter.mpr ⟨List.mem_of_getElem? (i := 170) (by decide +kernel), by decide +kernel⟩, fun _ h => nomatch h⟩⟩⟩
theorem jcls1 : jcls 1 (RX1, TX1, 3) := ⟨jlays1, rfl, tyX1_ok, nmX1, by decide +kernel, fun k hk => by
  have hk : k < 3 := hk
  rcases (show k = 0 ∨ k = 1 ∨ k = 2 by omega) with rfl | rfl | rfl
  · exact ⟨fun h => (by cases h), fun _ => ⟨rfl, Or.inr ⟨_, rfl⟩⟩⟩
  · exact ⟨fun _ => ⟨rfl, rfl⟩, fun h => (by cases h)⟩
  · exact ⟨fun _ => ⟨rfl, rfl⟩, fun h => (by cases h)⟩⟩
theorem jlays2 : ∀ w ∈ u_ws RX2 TX2 5, w ∈ lw_W := List.forall_mem_cons.mpr ⟨List.mem_filter.mpr ⟨List.mem_of_getElem? (i := 213) (by decide +kernel), by decide +kernel⟩, List.forall_mem_cons.mpr ⟨List.mem_filter.mpr ⟨List.mem_of_getElem? (i := 215) (by decide +kernel), by decide +kernel⟩, List.forall_mem_cons.mpr ⟨List.mem_filter.mpr ⟨List.mem_of_getElem? (i := 217) (by decide +kernel), by decide +kernel⟩, List.forall_mem_cons.mpr ⟨List.mem_filter.mpr ⟨List.mem_of_getElem? (i := 219) (by decide +kernel), by decide +kernel⟩, List.forall_mem_cons.mpr ⟨List.mem_filter.mpr ⟨List.mem_of_getElem? (i := 221) (by decide +kernel), by decide +kernel⟩, fun _ h => nomatch h⟩⟩⟩⟩⟩
theorem jcls2 : jcls 2 (RX2, TX2, 5) := ⟨jlays2, rfl, tyX2_ok, nmX2, by decide +kernel, fun k hk => by
  have hk : k < 5 := hk
  rcases (show k = 0 ∨ k = 1 ∨ k = 2 ∨ k = 3 ∨ k = 4 by omega) with rfl | rfl | rfl | rfl | rfl
  · exact ⟨fun _ => ⟨rfl, rfl⟩, fun h => (by cases h)⟩
  · exact ⟨fun _ => ⟨rfl, rfl⟩, fun h => (by cases h)⟩
  · exact ⟨fun _ => ⟨rfl, rfl⟩, fun h => (by cases h)⟩
  · exact ⟨fun _ => ⟨rfl, rfl⟩, fun h => (by cases h)⟩
  · exact ⟨fun _ => ⟨rfl, rfl⟩, fun h => (by cases h)⟩⟩
theorem jlays3 : ∀ w ∈ u_ws RX3 TX3 4, w ∈ lw_W := List.forall_mem_cons.mpr ⟨List.mem_filter.mpr ⟨List.mem_of_getElem? (i := 108) (by decide +kernel), by decide +kernel⟩, List.forall_mem_cons.mpr ⟨List.mem_filter.mpr ⟨List.mem_of_getElem? (i := 110) (by decide +kernel), by decide +kernel⟩, List.forall_mem_cons.mpr ⟨List.mem_filter.mpr ⟨List.mem_of_getElem? (i := 112) (by decide +kernel), by decide +kernel⟩, List.forall_mem_cons.mpr ⟨List.mem_filter.mpr ⟨List.mem_of_getElem? (i := 114) (by decide +kernel), by decide +kernel⟩, fun _ h => nomatch h⟩⟩⟩⟩
theorem jcls3 : jcls 3 (RX3, TX3, 4) := ⟨jlays3, rfl, tyX3_ok, nmX3, by decide +kernel, fun k hk => by
  have hk : k < 4 := hk
  rcases (show k = 0 ∨ k = 1 ∨ k = 2 ∨ k = 3 by omega) with rfl | rfl | rfl | rfl
  · exact ⟨fun _ => ⟨rfl, rfl⟩, fun h => (by cases h)⟩
  · exact ⟨fun _ => ⟨rfl, rfl⟩, fun h => (by cases h)⟩
  · exact ⟨fun _ => ⟨rfl, rfl⟩, fun h => (by cases h)⟩
  · exact ⟨fun _ => ⟨rfl, rfl⟩, fun h => (by cases h)⟩⟩
theorem jlays4 : ∀ w ∈ u_ws RX4 TX4 9, w ∈ lw_W := List.forall_mem_cons.mpr ⟨List.mem_filter.mpr ⟨List.mem_of_getElem? (i := 74) (by decide +kernel), by decide +kernel⟩, List.forall_mem_cons.mpr ⟨List.mem_filter.mpr ⟨List.mem_of_getElem? (i := 76) (by decide +kernel), by decide +kernel⟩, List.forall_mem_cons.mpr ⟨List.mem_filter.mpr ⟨List.mem_of_getElem? (i := 78) (by decide +kernel), by decide +kernel⟩, List.forall_mem_cons.mpr ⟨List.mem_filter.mpr ⟨List.mem_of_getElem? (i := 80) (by decide +kernel), by decide +kernel⟩, List.forall_mem_cons.mpr ⟨List.mem_filter.mpr ⟨List.mem_of_getElem? (i := 82) (by decide +kernel), by decide +kernel⟩, List.forall_mem_cons.mpr ⟨List.mem_filter.mpr ⟨List.mem_of_getElem? (i := 84) (by decide +kernel), by decide +kernel⟩, List.forall_mem_cons.mpr ⟨List.mem_filter.mpr ⟨List.mem_of_getElem? (i := 86) (by decide +kernel), by decide +kernel⟩, List.forall_mem_cons.mpr ⟨List.mem_filter.mpr ⟨List.mem_of_getElem? (i := 88) (by decide +kernel), by decide +kernel⟩, List.forall_mem_cons.mpr ⟨List.mem_filter.mpr ⟨List.mem_of_getElem? (i := 90) (by decide +kernel), by decide +kernel⟩, fun _ h => nomatch h⟩⟩⟩⟩⟩⟩⟩⟩⟩
theorem jcls4 : jcls 4 (RX4, TX4, 9) := ⟨jlays4, rfl, tyX4_ok, nmX4, by decide +kernel, fun k hk => by
  have hk : k < 9 := hk
  rcases (show k = 0 ∨ k = 1 ∨ k = 2 ∨ k = 3 ∨ k = 4 ∨ k = 5 ∨ k = 6 ∨ k = 7 ∨ k = 8 by omega) with rfl | rfl | rfl | rfl | rfl | rfl | rfl | rfl | rfl
  · exact ⟨fun _ => ⟨rfl, rfl⟩, fun h => (by cases h)⟩
  · exact ⟨fun _ => ⟨rfl, rfl⟩, fun h => (by cases h)⟩
  · exact ⟨fun _ => ⟨rfl, rfl⟩, fun h => (by cases h)⟩
  · exact ⟨fun _ => ⟨rfl, rfl⟩, fun h => (by cases h)⟩
  · exact ⟨fun _ => ⟨rfl, rfl⟩, fun h => (by cases h)⟩
  · exact ⟨fun _ => ⟨rfl, rfl⟩, fun h => (by cases h)⟩
  · exact ⟨fun _ => ⟨rfl, rfl⟩, fun h => (by cases h)⟩
  · exact ⟨fun _ => ⟨rfl, rfl⟩, fun h => (by cases h)⟩
  · exact ⟨fun _ => ⟨rfl, rfl⟩, fun h => (by cases h)⟩⟩
theorem jlays5 : ∀ w ∈ u_ws RX5 TX5 8, w ∈ lw_W := List.forall_mem_cons.mpr ⟨List.mem_filter.mpr ⟨List.mem_of_getElem? (i := 136) (by decide +kernel), by decide +kernel⟩, List.forall_mem_cons.mpr ⟨List.mem_filter.mpr ⟨List.mem_of_getElem? (i := 138) (by decide +kernel), by decide +kernel⟩, List.forall_mem_cons.mpr ⟨List.mem_filter.mpr ⟨List.mem_of_getElem? (i := 140) (by decide +kernel), by decide +kernel⟩, List.forall_mem_cons.mpr ⟨List.mem_filter.mpr ⟨List.mem_of_getElem? (i := 142) (by decide +kernel), by decide +kernel⟩, List.forall_mem_cons.mpr ⟨List.mem_filter.mpr ⟨List.mem_of_getElem? (i := 144) (by decide +kernel), by decide +kernel⟩, List.forall_mem_cons.mpr ⟨List.mem_filter.mpr ⟨List.mem_of_getElem? (i := 146) (by decide +kernel), by decide +kernel⟩, List.forall_mem_cons.mpr ⟨List.mem_filter.mpr ⟨List.mem_of_getElem? (i := 148) (by decide +kernel), by decide +kernel⟩, List.forall_mem_cons.mpr ⟨List.mem_filter.mpr ⟨List.mem_of_getElem? (i := 150) (by decide +kernel), by decide +kernel⟩, fun _ h => nomatch h⟩⟩⟩⟩⟩⟩⟩⟩
theorem jcls5 : jcls 5 (RX5, TX5, 8) := ⟨jlays5, rfl, tyX5_ok, nmX5, by decide +kernel, fun k hk => by
  have hk : k < 8 := hk
  rcases (show k = 0 ∨ k = 1 ∨ k = 2 ∨ k = 3 ∨ k = 4 ∨ k = 5 ∨ k = 6 ∨ k = 7 by omega) with rfl | rfl | rfl | rfl | rfl | rfl | rfl | rfl
  · exact ⟨fun h => (by cases h), fun _ => ⟨rfl, Or.inr ⟨_, rfl⟩⟩⟩
  · exact ⟨fun h => (by cases h), fun _ => ⟨rfl, Or.inr ⟨_, rfl⟩⟩⟩
  · exact ⟨fun h => (by cases h), fun _ => ⟨rfl, Or.inr ⟨_, rfl⟩⟩⟩
  · exact ⟨fun _ => ⟨rfl, rfl⟩, fun h => (by cases h)⟩
  · exact ⟨fun _ => ⟨rfl, rfl⟩, fun h => (by cases h)⟩
  · exact ⟨fun _ => ⟨rfl, rfl⟩, fun h => (by cases h)⟩
  · exact ⟨fun _ => ⟨rfl, rfl⟩, fun h => (by cases h)⟩
  · exact ⟨fun _ => ⟨rfl, rfl⟩, fun h => (by cases h)⟩⟩
theorem jlays6 : ∀ w ∈ u_ws RX6 TX6 4, w ∈ lw_W := List.forall_mem_cons.mpr ⟨List.mem_filter.mpr ⟨List.mem_of_getElem? (i := 228) (by decide +kernel), by decide +kernel⟩, List.forall_mem_cons.mpr ⟨List.mem_filter.mpr ⟨List.mem_of_getElem? (i := 230) (by decide +kernel), by decide +kernel⟩, List.forall_mem_cons.mpr ⟨List.mem_filter.mpr ⟨List.mem_of_getElem? (i := 232) (by decide +kernel), by decide +kernel⟩, List.forall_mem_cons.mpr ⟨List.mem_filter.mpr ⟨List.mem_of_getElem? (i := 234) (by decide +kernel), by decide +kernel⟩, fun _ h => nomatch h⟩⟩⟩⟩
theorem jcls6 : jcls 6 (RX6, TX6, 4) := ⟨jlays6, rfl, tyX6_ok, nmX6, by decide +kernel, fun k hk => by
  have hk : k < 4 := hk
  rcases (show k = 0 ∨ k = 1 ∨ k = 2 ∨ k = 3 by omega) with rfl | rfl | rfl | rfl
  · exact ⟨fun h => (by cases h), fun _ => ⟨rfl, Or.inl ⟨_, rfl⟩⟩⟩
  · exact ⟨fun h => (by cases h), fun _ => ⟨rfl, Or.inl ⟨_, rfl⟩⟩⟩
  · exact ⟨fun h => (by cases h), fun _ => ⟨rfl, Or.inl ⟨_, rfl⟩⟩⟩
  · exact ⟨fun h => (by cases h), fun _ => ⟨rfl, Or.inl ⟨_, rfl⟩⟩⟩⟩
theorem jpokF {l : Launch} {D : va_G} {cy : Nat → ClassId} {G : jgG} {own : String} {R : Room} {b : Bool} {ci k i : Nat} {r : vw_C} (hr : vwCl[ci]? = some r) (hc : jcls ci r) (h8 : ci < 8) (hk : k < jN ci) (hw : Cond.fieldLink own i r.1 (r.2.1 k).2.1 (r.2.1 k).2.2.1 ∈ lw_W) (hb : b = true → r.1 = own) : jPok l D cy G own R b (i, jpF ci k) := ⟨r, hr, hc, h8, hk, hw, hb⟩
theorem jxA : Cond.classLink RX6 170 "java/lang/IllegalArgumentException" ∈ lw_A ∧ Cond.initialized "java/lang/IllegalArgumentException" ∈ lw_A ∧ ∀ w ∈ vx_atS RX6 174 "java/lang/IllegalArgumentException" jxn, w ∈ lw_A := ⟨List.mem_filter.mpr ⟨List.mem_of_getElem? (i := 343) (by decide +kernel), by decide +kernel⟩, List.mem_filter.mpr ⟨List.mem_of_getElem? (i := 20) (by decide +kernel), by decide +kernel⟩, by decide +kernel⟩
theorem jxS : Cond.classLink RX6 70 "java/lang/IllegalStateException" ∈ lw_A ∧ Cond.initialized "java/lang/IllegalStateException" ∈ lw_A ∧ ∀ w ∈ vx_atS RX6 74 "java/lang/IllegalStateException" jxn, w ∈ lw_A := ⟨List.mem_filter.mpr ⟨List.mem_of_getElem? (i := 440) (by decide +kernel), by decide +kernel⟩, List.mem_filter.mpr ⟨List.mem_of_getElem? (i := 21) (by decide +kernel), by decide +kernel⟩, by decide +kernel⟩
theorem jxI : Cond.classLink RX6 326 "java/lang/IndexOutOfBoundsException" ∈ lw_A ∧ Cond.initialized "java/lang/IndexOutOfBoundsException" ∈ lw_A ∧ ∀ w ∈ vx_atS RX6 330 "java/lang/IndexOutOfBoundsException" jxn, w ∈ lw_A := ⟨List.mem_filter.mpr ⟨List.mem_of_getElem? (i := 268) (by decide +kernel), by decide +kernel⟩, List.mem_filter.mpr ⟨List.mem_of_getElem? (i := 22) (by decide +kernel), by decide +kernel⟩, by decide +kernel⟩
