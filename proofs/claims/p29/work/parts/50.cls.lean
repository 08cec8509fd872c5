/-! SkipRows: putAll, freest, the digest's parts -/
def jAdd (σ : jgS) (h : Nat) (k u : Int32) : jgS := jwI (jwI (jbg σ (h + 4 + jn σ h) k u (σ.1 h 5) (σ.1 h 4)) h 3 (nI (jn σ h) + 1)) h 5 (σ.1 h 5 + 1)
theorem jAdd_F (G : jgG) (h : Nat) (k u : Int32) (σ : jgS) : Ff_X5_addRow G h k u σ = (.inl none, jAdd σ h k u) := rfl
theorem jAdd_2 (σ : jgS) (h : Nat) (k u : Int32) : (jAdd σ h k u).2 = σ.2 := rfl
theorem jAdd_out {σ : jgS} {h a : Nat} {k u : Int32} (hn : jn σ h < 24) (ha : a < h ∨ h + 28 ≤ a) (j : Nat) : (jAdd σ h k u).1 a j = σ.1 a j := by
  unfold jAdd
  rw [jI_wI, if_neg (by omega), jI_wI, if_neg (by omega), jbg_out (by omega)]
theorem jAdd_f {G : jgG} {σ : jgS} {h : Nat} {k u : Int32} (hT : jT G σ h) (hn : jn σ h < 24) : jT G (jAdd σ h k u) h ∧ jn (jAdd σ h k u) h = jn σ h + 1 := by
  have e : (jAdd σ h k u).1 h 3 = nI (jn σ h + 1) := by
    unfold jAdd
    rw [jI_wI, if_neg (by omega), jI_wI, if_pos ⟨rfl, rfl⟩]
    exact nI_1 _
  have e2 : jn (jAdd σ h k u) h = jn σ h + 1 := by unfold jn at *; rw [e]; exact nI_clamp (by omega)
  exact ⟨⟨hT.1, by rw [e2, e], by omega⟩, e2⟩
theorem jSR_o {G : jgG} {σ τ : jgS} {x : Nat} (h2 : τ.2 = σ.2) (ho : ∀ a, a < x + 227 → ∀ k, τ.1 a k = σ.1 a k) (hb : vp_in (τ.1 (x + 227) 1) 61) (hp : jSR G σ x) : jSR G τ x := by
  obtain ⟨h1, hT, hH, hB, hL, h4, hu, hh⟩ := hp
  have ew : jwt τ = jwt σ := by unfold jwt; rw [h2]
  have ejn : jn τ (x + 1) = jn σ (x + 1) := by unfold jn; rw [ho _ (by omega)]
  obtain ⟨b1, b2, b3, b4⟩ := hB
  obtain ⟨c1, c2, c3, c4, c5⟩ := hH
  refine ⟨by rw [h2, ew]; exact h1, jT_cg h2 (ho _ (by omega) _) hT, ⟨by rw [h2, ew]; exact c1, by rw [h2]; exact c2, fun i hi => jT_cg h2 (ho _ (by omega) _) (c3 i hi), by rw [ho _ (by omega)]; exact c4, by rw [ho _ (by omega)]; exact c5⟩, ⟨by rw [ew]; exact b1, by rw [h2]; exact b2, by rw [ew]; exact b3, hb⟩, by rw [ew]; exact hL, h4, fun j hj => ?_, fun j hj => ?_⟩
  · rw [ejn] at hj
    rw [ho _ (by have := hT.2.2; omega)]
    exact hu j hj
  · rw [ejn] at hj
    rw [ho _ (by have := hT.2.2; omega), ho _ (by have := hT.2.2; omega)]
    exact hh j hj
