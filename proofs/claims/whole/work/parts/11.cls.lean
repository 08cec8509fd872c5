/-! the classes' tables, and those of the exceptions -/
theorem jlays0 : ∀ w ∈ u_ws RX0 TX0 7, w ∈ lw_W := List.forall_mem_cons.mpr ⟨List.mem_filter.mpr ⟨List.mem_of_getElem? (i := 233) (by decide +kernel), by decide +kernel⟩, List.forall_mem_cons.mpr ⟨List.mem_filter.mpr ⟨List.mem_of_getElem? (i := 235) (by decide +kernel), by decide +kernel⟩, List.forall_mem_cons.mpr ⟨List.mem_filter.mpr ⟨List.mem_of_getElem? (i := 237) (by decide +kernel), by decide +kernel⟩, List.forall_mem_cons.mpr ⟨List.mem_filter.mpr ⟨List.mem_of_getElem? (i := 239) (by decide +kernel), by decide +kernel⟩, List.forall_mem_cons.mpr ⟨List.mem_filter.mpr ⟨List.mem_of_getElem? (i := 241) (by decide +kernel), by decide +kernel⟩, List.forall_mem_cons.mpr ⟨List.mem_filter.mpr ⟨List.mem_of_getElem? (i := 243) (by decide +kernel), by decide +kernel⟩, List.forall_mem_cons.mpr ⟨List.mem_filter.mpr ⟨List.mem_of_getElem? (i := 245) (by decide +kernel), by decide +kernel⟩, fun _ h => nomatch h⟩⟩⟩⟩⟩⟩⟩
theorem jcls0 : jcls 0 (RX0, TX0, 7) := ⟨jlays0, rfl, tyX0_ok, nmX0, by decide +kernel, fun k hk => by
  have hk : k < 7 := hk
  rcases (show k = 0 ∨ k = 1 ∨ k = 2 ∨ k = 3 ∨ k = 4 ∨ k = 5 ∨ k = 6 by omega) with rfl | rfl | rfl | rfl | rfl | rfl | rfl
  · exact ⟨fun h => (by cases h), fun _ => ⟨rfl, Or.inr ⟨_, rfl⟩⟩⟩
  · exact ⟨fun _ => ⟨rfl, rfl⟩, fun h => (by cases h)⟩
  · exact ⟨fun h => (by cases h), fun _ => ⟨rfl, Or.inr ⟨_, rfl⟩⟩⟩
  · exact ⟨fun h => (by cases h), fun _ => ⟨rfl, Or.inr ⟨_, rfl⟩⟩⟩
  · exact ⟨fun h => (by cases h), fun _ => ⟨rfl, Or.inr ⟨_, rfl⟩⟩⟩
  · exact ⟨fun _ => ⟨rfl, rfl⟩, fun h => (by cases h)⟩
  · exact ⟨fun _ => ⟨rfl, rfl⟩, fun h => (by cases h)⟩⟩
theorem jlays1 : ∀ w ∈ u_ws RX1 TX1 3, w ∈ lw_W := List.forall_mem_cons.mpr ⟨List.mem_filter.mpr ⟨List.mem_of_getElem? (i := 207) (by decide +kernel), by decide +kernel⟩, List.forall_mem_cons.mpr ⟨List.mem_filter.mpr ⟨List.mem_of_getElem? (i := 209) (by decide +kernel), by decide +kernel⟩, List.forall_mem_cons.mpr ⟨List.mem_filter.mpr ⟨List.mem_of_getElem? (i := 211) (by decide +kernel), by decide +kernel⟩, fun _ h => nomatch h⟩⟩⟩
theorem jcls1 : jcls 1 (RX1, TX1, 3) := ⟨jlays1, rfl, tyX1_ok, nmX1, by decide +kernel, fun k hk => by
  have hk : k < 3 := hk
  rcases (show k = 0 ∨ k = 1 ∨ k = 2 by omega) with rfl | rfl | rfl
  · exact ⟨fun h => (by cases h), fun _ => ⟨rfl, Or.inr ⟨_, rfl⟩⟩⟩
  · exact ⟨fun _ => ⟨rfl, rfl⟩, fun h => (by cases h)⟩
  · exact ⟨fun _ => ⟨rfl, rfl⟩, fun h => (by cases h)⟩⟩
theorem jlays2 : ∀ w ∈ u_ws RX2 TX2 5, w ∈ lw_W := List.forall_mem_cons.mpr ⟨List.mem_filter.mpr ⟨List.mem_of_getElem? (i := 263) (by decide +kernel), by decide +kernel⟩, List.forall_mem_cons.mpr ⟨List.mem_filter.mpr ⟨List.mem_of_getElem? (i := 265) (by decide +kernel), by decide +kernel⟩, List.forall_mem_cons.mpr ⟨List.mem_filter.mpr ⟨List.mem_of_getElem? (i := 267) (by decide +kernel), by decide +kernel⟩, List.forall_mem_cons.mpr ⟨List.mem_filter.mpr ⟨List.mem_of_getElem? (i := 269) (by decide +kernel), by decide +kernel⟩, List.forall_mem_cons.mpr ⟨List.mem_filter.mpr ⟨List.mem_of_getElem? (i := 271) (by decide +kernel), by decide +kernel⟩, fun _ h => nomatch h⟩⟩⟩⟩⟩
theorem jcls2 : jcls 2 (RX2, TX2, 5) := ⟨jlays2, rfl, tyX2_ok, nmX2, by decide +kernel, fun k hk => by
  have hk : k < 5 := hk
  rcases (show k = 0 ∨ k = 1 ∨ k = 2 ∨ k = 3 ∨ k = 4 by omega) with rfl | rfl | rfl | rfl | rfl
  · exact ⟨fun _ => ⟨rfl, rfl⟩, fun h => (by cases h)⟩
  · exact ⟨fun _ => ⟨rfl, rfl⟩, fun h => (by cases h)⟩
  · exact ⟨fun _ => ⟨rfl, rfl⟩, fun h => (by cases h)⟩
  · exact ⟨fun _ => ⟨rfl, rfl⟩, fun h => (by cases h)⟩
  · exact ⟨fun _ => ⟨rfl, rfl⟩, fun h => (by cases h)⟩⟩
theorem jlays3 : ∀ w ∈ u_ws RX3 TX3 4, w ∈ lw_W := List.forall_mem_cons.mpr ⟨List.mem_filter.mpr ⟨List.mem_of_getElem? (i := 149) (by decide +kernel), by decide +kernel⟩, List.forall_mem_cons.mpr ⟨List.mem_filter.mpr ⟨List.mem_of_getElem? (i := 151) (by decide +kernel), by decide +kernel⟩, List.forall_mem_cons.mpr ⟨List.mem_filter.mpr ⟨List.mem_of_getElem? (i := 153) (by decide +kernel), by decide +kernel⟩, List.forall_mem_cons.mpr ⟨List.mem_filter.mpr ⟨List.mem_of_getElem? (i := 155) (by decide +kernel), by decide +kernel⟩, fun _ h => nomatch h⟩⟩⟩⟩
theorem jcls3 : jcls 3 (RX3, TX3, 4) := ⟨jlays3, rfl, tyX3_ok, nmX3, by decide +kernel, fun k hk => by
  have hk : k < 4 := hk
  rcases (show k = 0 ∨ k = 1 ∨ k = 2 ∨ k = 3 by omega) with rfl | rfl | rfl | rfl
  · exact ⟨fun _ => ⟨rfl, rfl⟩, fun h => (by cases h)⟩
  · exact ⟨fun _ => ⟨rfl, rfl⟩, fun h => (by cases h)⟩
  · exact ⟨fun _ => ⟨rfl, rfl⟩, fun h => (by cases h)⟩
  · exact ⟨fun _ => ⟨rfl, rfl⟩, fun h => (by cases h)⟩⟩
theorem jlays4 : ∀ w ∈ u_ws RX4 TX4 9, w ∈ lw_W := List.forall_mem_cons.mpr ⟨List.mem_filter.mpr ⟨List.mem_of_getElem? (i := 115) (by decide +kernel), by decide +kernel⟩, List.forall_mem_cons.mpr ⟨List.mem_filter.mpr ⟨List.mem_of_getElem? (i := 117) (by decide +kernel), by decide +kernel⟩, List.forall_mem_cons.mpr ⟨List.mem_filter.mpr ⟨List.mem_of_getElem? (i := 119) (by decide +kernel), by decide +kernel⟩, List.forall_mem_cons.mpr ⟨List.mem_filter.mpr ⟨List.mem_of_getElem? (i := 121) (by decide +kernel), by decide +kernel⟩, List.forall_mem_cons.mpr ⟨List.mem_filter.mpr ⟨List.mem_of_getElem? (i := 123) (by decide +kernel), by decide +kernel⟩, List.forall_mem_cons.mpr ⟨List.mem_filter.mpr ⟨List.mem_of_getElem? (i := 125) (by decide +kernel), by decide +kernel⟩, List.forall_mem_cons.mpr ⟨List.mem_filter.mpr ⟨List.mem_of_getElem? (i := 127) (by decide +kernel), by decide +kernel⟩, List.forall_mem_cons.mpr ⟨List.mem_filter.mpr ⟨List.mem_of_getElem? (i := 129) (by decide +kernel), by decide +kernel⟩, List.forall_mem_cons.mpr ⟨List.mem_filter.mpr ⟨List.mem_of_getElem? (i := 131) (by decide +kernel), by decide +kernel⟩, fun _ h => nomatch h⟩⟩⟩⟩⟩⟩⟩⟩⟩
theorem jcls4 : jcls 4 (RX4, TX4, 9) := ⟨jlays4, rfl, tyX4_ok, nmX4, by decide +kernel, fun k hk => by
  have hk : k < 9 := hk
  rcases (show k = 0 ∨ k = 1 ∨ k = 2 ∨ k = 3 ∨ k = 4 ∨ k = 5 ∨ k = 6 ∨ k = 7 ∨ k = 8 by omega) with rfl | rfl | rfl | rfl | rfl | rfl | rfl | rfl | rfl
  · exact ⟨fun _ => ⟨rfl, rfl⟩, fun h => (by cases h)⟩
  · exact ⟨fun _ => ⟨rfl, rfl⟩, fun h => (by cases h)⟩
  · exact ⟨fun _ => ⟨rfl, rfl⟩, fun h => (by cases h)⟩
  · exact ⟨fun _ => ⟨rfl, rfl⟩, fun h => (by cases h)⟩
  · exact ⟨fun _ => ⟨rfl, rfl⟩, fun h => (by cases h)⟩
  · exact ⟨fun _ => ⟨rfl, rfl⟩, fun h => (by cases h)⟩
  · exact ⟨fun _ => ⟨rfl, rfl⟩, fun h => (by cases h)⟩
  · exact ⟨fun _ => ⟨rfl, rfl⟩, fun h => (by cases h)⟩
  · exact ⟨fun _ => ⟨rfl, rfl⟩, fun h => (by cases h)⟩⟩
theorem jlays5 : ∀ w ∈ u_ws RX5 TX5 8, w ∈ lw_W := List.forall_mem_cons.mpr ⟨List.mem_filter.mpr ⟨List.mem_of_getElem? (i := 177) (by decide +kernel), by decide +kernel⟩, List.forall_mem_cons.mpr ⟨List.mem_filter.mpr ⟨List.mem_of_getElem? (i := 179) (by decide +kernel), by decide +kernel⟩, List.forall_mem_cons.mpr ⟨List.mem_filter.mpr ⟨List.mem_of_getElem? (i := 181) (by decide +kernel), by decide +kernel⟩, List.forall_mem_cons.mpr ⟨List.mem_filter.mpr ⟨List.mem_of_getElem? (i := 183) (by decide +kernel), by decide +kernel⟩, List.forall_mem_cons.mpr ⟨List.mem_filter.mpr ⟨List.mem_of_getElem? (i := 185) (by decide +kernel), by decide +kernel⟩, List.forall_mem_cons.mpr ⟨List.mem_filter.mpr ⟨List.mem_of_getElem? (i := 187) (by decide +kernel), by decide +kernel⟩, List.forall_mem_cons.mpr ⟨List.mem_filter.mpr ⟨List.mem_of_getElem? (i := 189) (by decide +kernel), by decide +kernel⟩, List.forall_mem_cons.mpr ⟨List.mem_filter.mpr ⟨List.mem_of_getElem? (i := 191) (by decide +kernel), by decide +kernel⟩, fun _ h => nomatch h⟩⟩⟩⟩⟩⟩⟩⟩
theorem jcls5 : jcls 5 (RX5, TX5, 8) := ⟨jlays5, rfl, tyX5_ok, nmX5, by decide +kernel, fun k hk => by
  have hk : k < 8 := hk
  rcases (show k = 0 ∨ k = 1 ∨ k = 2 ∨ k = 3 ∨ k = 4 ∨ k = 5 ∨ k = 6 ∨ k = 7 by omega) with rfl | rfl | rfl | rfl | rfl | rfl | rfl | rfl
  · exact ⟨fun h => (by cases h), fun _ => ⟨rfl, Or.inr ⟨_, rfl⟩⟩⟩
  · exact ⟨fun h => (by cases h), fun _ => ⟨rfl, Or.inr ⟨_, rfl⟩⟩⟩
  · exact ⟨fun h => (by cases h), fun _ => ⟨rfl, Or.inr ⟨_, rfl⟩⟩⟩
  · exact ⟨fun _ => ⟨rfl, rfl⟩, fun h => (by cases h)⟩
  · exact ⟨fun _ => ⟨rfl, rfl⟩, fun h => (by cases h)⟩
  · exact ⟨fun _ => ⟨rfl, rfl⟩, fun h => (by cases h)⟩
  · exact ⟨fun _ => ⟨rfl, rfl⟩, fun h => (by cases h)⟩
  · exact ⟨fun _ => ⟨rfl, rfl⟩, fun h => (by cases h)⟩⟩
theorem jlays6 : ∀ w ∈ u_ws RX6 TX6 4, w ∈ lw_W := List.forall_mem_cons.mpr ⟨List.mem_filter.mpr ⟨List.mem_of_getElem? (i := 278) (by decide +kernel), by decide +kernel⟩, List.forall_mem_cons.mpr ⟨List.mem_filter.mpr ⟨List.mem_of_getElem? (i := 280) (by decide +kernel), by decide +kernel⟩, List.forall_mem_cons.mpr ⟨List.mem_filter.mpr ⟨List.mem_of_getElem? (i := 282) (by decide +kernel), by decide +kernel⟩, List.forall_mem_cons.mpr ⟨List.mem_filter.mpr ⟨List.mem_of_getElem? (i := 284) (by decide +kernel), by decide +kernel⟩, fun _ h => nomatch h⟩⟩⟩⟩
theorem jcls6 : jcls 6 (RX6, TX6, 4) := ⟨jlays6, rfl, tyX6_ok, nmX6, by decide +kernel, fun k hk => by
  have hk : k < 4 := hk
  rcases (show k = 0 ∨ k = 1 ∨ k = 2 ∨ k = 3 by omega) with rfl | rfl | rfl | rfl
  · exact ⟨fun h => (by cases h), fun _ => ⟨rfl, Or.inl ⟨_, rfl⟩⟩⟩
  · exact ⟨fun h => (by cases h), fun _ => ⟨rfl, Or.inl ⟨_, rfl⟩⟩⟩
  · exact ⟨fun h => (by cases h), fun _ => ⟨rfl, Or.inl ⟨_, rfl⟩⟩⟩
  · exact ⟨fun h => (by cases h), fun _ => ⟨rfl, Or.inl ⟨_, rfl⟩⟩⟩⟩
theorem jlays7 : ∀ w ∈ u_ws RX7 TX7 11, w ∈ lw_W := List.forall_mem_cons.mpr ⟨List.mem_filter.mpr ⟨List.mem_of_getElem? (i := 833) (by decide +kernel), by decide +kernel⟩, List.forall_mem_cons.mpr ⟨List.mem_filter.mpr ⟨List.mem_of_getElem? (i := 835) (by decide +kernel), by decide +kernel⟩, List.forall_mem_cons.mpr ⟨List.mem_filter.mpr ⟨List.mem_of_getElem? (i := 837) (by decide +kernel), by decide +kernel⟩, List.forall_mem_cons.mpr ⟨List.mem_filter.mpr ⟨List.mem_of_getElem? (i := 839) (by decide +kernel), by decide +kernel⟩, List.forall_mem_cons.mpr ⟨List.mem_filter.mpr ⟨List.mem_of_getElem? (i := 841) (by decide +kernel), by decide +kernel⟩, List.forall_mem_cons.mpr ⟨List.mem_filter.mpr ⟨List.mem_of_getElem? (i := 843) (by decide +kernel), by decide +kernel⟩, List.forall_mem_cons.mpr ⟨List.mem_filter.mpr ⟨List.mem_of_getElem? (i := 845) (by decide +kernel), by decide +kernel⟩, List.forall_mem_cons.mpr ⟨List.mem_filter.mpr ⟨List.mem_of_getElem? (i := 847) (by decide +kernel), by decide +kernel⟩, List.forall_mem_cons.mpr ⟨List.mem_filter.mpr ⟨List.mem_of_getElem? (i := 849) (by decide +kernel), by decide +kernel⟩, List.forall_mem_cons.mpr ⟨List.mem_filter.mpr ⟨List.mem_of_getElem? (i := 851) (by decide +kernel), by decide +kernel⟩, List.forall_mem_cons.mpr ⟨List.mem_filter.mpr ⟨List.mem_of_getElem? (i := 853) (by decide +kernel), by decide +kernel⟩, fun _ h => nomatch h⟩⟩⟩⟩⟩⟩⟩⟩⟩⟩⟩
theorem jcls7 : jcls 7 (RX7, TX7, 11) := ⟨jlays7, rfl, tyX7_ok, nmX7, by decide +kernel, fun k hk => by
  have hk : k < 11 := hk
  rcases (show k = 0 ∨ k = 1 ∨ k = 2 ∨ k = 3 ∨ k = 4 ∨ k = 5 ∨ k = 6 ∨ k = 7 ∨ k = 8 ∨ k = 9 ∨ k = 10 by omega) with rfl | rfl | rfl | rfl | rfl | rfl | rfl | rfl | rfl | rfl | rfl
  · exact ⟨fun _ => ⟨rfl, rfl⟩, fun h => (by cases h)⟩
  · exact ⟨fun h => (by cases h), fun _ => ⟨rfl, Or.inr ⟨_, rfl⟩⟩⟩
  · exact ⟨fun h => (by cases h), fun _ => ⟨rfl, Or.inr ⟨_, rfl⟩⟩⟩
  · exact ⟨fun h => (by cases h), fun _ => ⟨rfl, Or.inr ⟨_, rfl⟩⟩⟩
  · exact ⟨fun _ => ⟨rfl, rfl⟩, fun h => (by cases h)⟩
  · exact ⟨fun h => (by cases h), fun _ => ⟨rfl, Or.inr ⟨_, rfl⟩⟩⟩
  · exact ⟨fun _ => ⟨rfl, rfl⟩, fun h => (by cases h)⟩
  · exact ⟨fun h => (by cases h), fun _ => ⟨rfl, Or.inr ⟨_, rfl⟩⟩⟩
  · exact ⟨fun _ => ⟨rfl, rfl⟩, fun h => (by cases h)⟩
  · exact ⟨fun _ => ⟨rfl, rfl⟩, fun h => (by cases h)⟩
  · exact ⟨fun _ => ⟨rfl, rfl⟩, fun h => (by cases h)⟩⟩
theorem jpokF {l : Launch} {D : va_G} {cy : Nat → ClassId} {G : jgG} {own : String} {R : Room} {b : Bool} {ci k i : Nat} {r : vw_C} (hr : vwCl[ci]? = some r) (hc : jcls ci r) (h8 : ci < 8) (hk : k < jN ci) (hw : Cond.fieldLink own i r.1 (r.2.1 k).2.1 (r.2.1 k).2.2.1 ∈ lw_W) (hb : b = true → r.1 = own) : jPok l D cy G own R b (i, jpF ci k) := ⟨r, hr, hc, h8, hk, hw, hb⟩
theorem jxA : Cond.classLink RX6 170 "java/lang/IllegalArgumentException" ∈ lw_A ∧ Cond.initialized "java/lang/IllegalArgumentException" ∈ lw_A ∧ ∀ w ∈ vx_atS RX6 174 "java/lang/IllegalArgumentException" jxn, w ∈ lw_A := ⟨List.mem_filter.mpr ⟨List.mem_of_getElem? (i := 401) (by decide +kernel), by decide +kernel⟩, List.mem_filter.mpr ⟨List.mem_of_getElem? (i := 61) (by decide +kernel), by decide +kernel⟩, by decide +kernel⟩
theorem jxS : Cond.classLink RX6 70 "java/lang/IllegalStateException" ∈ lw_A ∧ Cond.initialized "java/lang/IllegalStateException" ∈ lw_A ∧ ∀ w ∈ vx_atS RX6 74 "java/lang/IllegalStateException" jxn, w ∈ lw_A := ⟨List.mem_filter.mpr ⟨List.mem_of_getElem? (i := 606) (by decide +kernel), by decide +kernel⟩, List.mem_filter.mpr ⟨List.mem_of_getElem? (i := 62) (by decide +kernel), by decide +kernel⟩, by decide +kernel⟩
theorem jxI : Cond.classLink RX6 326 "java/lang/IndexOutOfBoundsException" ∈ lw_A ∧ Cond.initialized "java/lang/IndexOutOfBoundsException" ∈ lw_A ∧ ∀ w ∈ vx_atS RX6 330 "java/lang/IndexOutOfBoundsException" jxn, w ∈ lw_A := ⟨List.mem_filter.mpr ⟨List.mem_of_getElem? (i := 505) (by decide +kernel), by decide +kernel⟩, List.mem_filter.mpr ⟨List.mem_of_getElem? (i := 63) (by decide +kernel), by decide +kernel⟩, by decide +kernel⟩
