/-! the start -/
theorem jB0_z {σ : jgS} {B : Nat} (hw : jwt σ = B + 1) (k : Nat) : (jB0 σ B).1 (B + 1) k = 0 := by
  have e2 : B + 1 + 1 = B + 2 := rfl
  have e3 : B + 2 + 1 = B + 3 := rfl
  have e4 : B + 3 + 1 = B + 4 := rfl
  have d2 : ¬ B + 1 = B + 2 := by omega
  have d3 : ¬ B + 1 = B + 3 := by omega
  have d4 : ¬ B + 1 = B + 4 := by omega
  simp only [jB0, jRI, jnI, jwtq_wR, jwt_n, hw, e2, e3, e4, d2, d3, d4, if_false, if_true]
/-- the first numbers, r readers' sets written -/
def mI0 : Nat → Nat → Int32
  | 0 => jup1 (jup1 (jup1 (fun _ => 0) 5 5) 6 3) 8 4
  | r + 1 => jup1 (mI0 r) (9 + 4 * r + 0) 255
def mS0 : Nat → Int32 := mI0 4
def kZ1 (σ : jgS) (x : Nat) : jgS := jX4 (jwn σ 4) x
def kZ6 (σ : jgS) (x : Nat) : jgS := jwn (jwn (jwn (jwn (jwn (kZ1 σ x) 25) 63) 25) 63) 3
def kfm (σ τ : jgS) (x n : Nat) : Prop := ∀ a, x < a → a < n → ∀ k, τ.1 a k = σ.1 a k ∧ τ.2.1 a k = σ.2.1 a k
theorem kfm_t {σ τ υ : jgS} {x n m : Nat} (h1 : kfm σ τ x n) (h2 : kfm τ υ x m) (hn : n ≤ m) : kfm σ υ x n := fun a h h' k => ⟨((h2 a h (by omega) k).1).trans (h1 a h h' k).1, ((h2 a h (by omega) k).2).trans (h1 a h h' k).2⟩
theorem kfm_n {σ : jgS} {x n c : Nat} (hw : jwt σ = n) : kfm σ (jwn σ c) x n := fun a h h' k => ⟨by rw [jnI, if_neg (by omega)], by rw [jnR, if_neg (by omega)]⟩
theorem kfm_R {σ : jgS} {x n k0 : Nat} {v : Option Nat} : kfm σ (jwR σ x k0 v) x n := fun a h h' k => ⟨rfl, by rw [jRR, if_neg (by omega)]⟩
theorem kZ_f {G : jgG} {σ : jgS} {x : Nat} (hw : jwt σ = x) (hG : G.1 ≤ x) (hl : jLx G x) : jwt (kZ1 σ x) = x + 233 ∧ jhs (kZ1 σ x) = jhs σ + 233 ∧ jsl (kZ1 σ x) = jsl σ + 2049 := by
  have h0 : jwt (jwn σ 4) = x + 1 := by rw [jwt_n, hw]
  obtain ⟨_, _, _, d1, d2, d3⟩ := jX_f h0 hG hl
  refine ⟨d1, ?_, ?_⟩
  · have e : jhs (kZ1 σ x) = jhs (jwn σ 4) + 232 := d2
    rw [e, jhs_n]
  · have e : jsl (kZ1 σ x) = jsl (jwn σ 4) + 2045 := d3
    rw [e, jsl_n]
theorem mS0_N : mN mS0 = 0 := by decide
theorem kI_0 : kI 0 mS0 := by
  refine ⟨⟨by decide, by decide⟩, 0, 0, 5, by decide, by decide, by decide, by decide, ⟨by decide, by decide, by decide⟩, vp_in_nI (n := 4) (by decide) (by decide), fun i hi => ?_, fun i hi => ?_, fun i j h hj => ?_⟩
  · rw [mS0_N] at hi; omega
  · rw [mS0_N] at hi; omega
  · rw [mS0_N] at hj; omega
theorem kR_0 {G : jgG} {σ : jgS} {h : Nat} (hz : jTz G σ h) : kR σ h mS0 := by
  obtain ⟨_, h1, ⟨a0, a1, a2, a3⟩, h3⟩ := hz
  refine ⟨⟨h1 3 (by decide) (by decide), h1 4 (by decide) (by decide), h1 5 (by decide) (by decide), h1 6 (by decide) (by decide), h1 7 (by decide) (by decide)⟩, fun k hk => ?_, fun r hr p hp => ?_, fun i hi => ?_⟩
  · have hk' : k = 0 ∨ k = 1 ∨ k = 2 ∨ k = 3 := by omega
    rcases hk' with rfl | rfl | rfl | rfl
    · exact a0
    · exact a1
    · exact a2
    · exact a3
  · rw [h3 r hr p]
    have hr' : r = 0 ∨ r = 1 ∨ r = 2 ∨ r = 3 := by omega
    have hp' : p = 0 ∨ p = 1 ∨ p = 2 ∨ p = 3 := by omega
    rcases hr' with rfl | rfl | rfl | rfl <;> rcases hp' with rfl | rfl | rfl | rfl <;> decide
  · rw [mS0_N] at hi; omega
theorem kfm_H {G : jgG} {σ : jgS} {H x : Nat} (hw : jwt σ = H + 1) (hG : G.1 ≤ H) (hl : ∀ i, i < 6 → jLy G (H + 2 + 32 * i)) : kfm σ (jHi σ H 6) x H := by
  obtain ⟨_, _, _, p4, p5, _⟩ := jHi_f (G := G) hw hG hl 6 (Nat.le_refl _)
  exact fun a _ h k => ⟨p4 a k (Nat.lt_succ_of_lt h), p5 a k h⟩
theorem kfm_B {σ : jgS} {B x : Nat} (hw : jwt σ = B + 1) : kfm σ (jB0 σ B) x B := by
  obtain ⟨_, _, _, p4, p5, _⟩ := jB0_f hw
  exact fun a _ h k => ⟨p4 a k (Nat.lt_succ_of_lt h), p5 a k h⟩
theorem kst1 {G : jgG} {s : jgS} {x : Nat} (hs : jwt s = x + 1) (hG : G.1 ≤ x) (hl : jLx G x) : jwt (jX1 s x) = x + 33 ∧ jTz G (jX1 s x) (x + 1) ∧ (jX1 s x).2.1 x 0 = some (x + 1) := by
  obtain ⟨⟨a1, _⟩, _⟩ := jX_f hs hG hl
  have n1 : jwt (jwn s 8) = (x + 1) + 1 := by rw [jwt_n, hs]
  have T : jTz G (jTd (jwn s 8) (x + 1) 4) (x + 1) := jTz_new n1 (Nat.le_succ_of_le hG) hl.2.1 (fun k _ _ => by rw [jnI, if_pos hs.symm])
  refine ⟨a1, jTz_ext (σ := jTd (jwn s 8) (x + 1) 4) (fun a h h' k => ⟨rfl, ?_⟩) (Nat.le_refl _) T, ?_⟩
  · have ha : ¬ a = x := Nat.ne_of_gt h
    rw [jX1, jRR, if_neg (fun z => ha z.1)]
  · rw [jX1, jRR, if_pos ⟨rfl, rfl⟩]
theorem kst2 {G : jgG} {τ : jgS} {x : Nat} (hs : jwt τ = x + 33) (hG : G.1 ≤ x) (hl : jLx G x) : jwt (jwR (jHi (jwn τ 3) (x + 33) 6) x 1 (some (x + 33))) = x + 227 ∧ kfm τ (jwR (jHi (jwn τ 3) (x + 33) 6) x 1 (some (x + 33))) x (x + 33) ∧ (∀ k, ¬ k = 1 → (jwR (jHi (jwn τ 3) (x + 33) 6) x 1 (some (x + 33))).2.1 x k = τ.2.1 x k) ∧ (jwR (jHi (jwn τ 3) (x + 33) 6) x 1 (some (x + 33))).2.1 x 1 = some (x + 33) ∧ (jwR (jHi (jwn τ 3) (x + 33) 6) x 1 (some (x + 33))).2.1 (x + 33) 0 = some (x + 33 + 1) ∧ (∀ j, j < 6 → (jwR (jHi (jwn τ 3) (x + 33) 6) x 1 (some (x + 33))).2.1 (x + 33 + 1) j = some (x + 33 + 2 + 32 * j)) ∧ (∀ j, j < 6 → jTz G (jwR (jHi (jwn τ 3) (x + 33) 6) x 1 (some (x + 33))) (x + 33 + 2 + 32 * j)) ∧ ∀ k, (jwR (jHi (jwn τ 3) (x + 33) 6) x 1 (some (x + 33))).1 (x + 33) k = 0 := by
  have n1 : jwt (jwn τ 3) = (x + 33) + 1 := by rw [jwt_n, hs]
  have hl4 := hl.2.2.2.2.1
  have hG2 : G.1 ≤ x + 33 := Nat.le_add_right_of_le hG
  have N1 : x < x + 33 := Nat.lt_add_of_pos_right (by decide)
  have N2 : ¬ x + 33 = x := Nat.ne_of_gt N1
  have N3 : ¬ x + 33 + 1 = x := Nat.ne_of_gt (Nat.lt_succ_of_lt N1)
  have N4 : ¬ x = x + 33 := Nat.ne_of_lt N1
  have N5 : ∀ j a, x + 33 + 2 + 32 * j ≤ a → ¬ a = x := fun j a h => by clear hs n1 hl hl4; omega
  obtain ⟨p1, _, _, p4, p5, p6, p7, p8⟩ := jHi_f (G := G) n1 hG2 hl4 6 (Nat.le_refl _)
  refine ⟨p1, kfm_t (kfm_t (kfm_n hs) (kfm_H n1 hG2 hl4) (Nat.le_refl _)) kfm_R (Nat.le_refl _), fun k hk => ?_, ?_, ?_, fun j hj => ?_, fun j hj => jTz_ext (σ := jHi (jwn τ 3) (x + 33) 6) (fun a h h' k => ⟨rfl, ?_⟩) (Nat.le_refl _) (p8 j hj), fun k => ?_⟩
  · rw [jRR, if_neg (fun z => hk z.2), p5 x k N1, jnR, if_neg (by rw [hs]; exact N4)]
  · rw [jRR, if_pos ⟨rfl, rfl⟩]
  · rw [jRR, if_neg (fun z => N2 z.1)]; exact p6
  · rw [jRR, if_neg (fun z => N3 z.1)]; exact p7 j hj
  · rw [jRR, if_neg (fun z => N5 j a h z.1)]
  · rw [jRI, p4 _ k (Nat.lt_succ_self _), jnI, if_pos hs.symm]
theorem kst3 {τ : jgS} {x : Nat} (hs : jwt τ = x + 227) : jwt (jwR (jB0 (jwn τ 7) (x + 227)) x 2 (some (x + 227))) = x + 232 ∧ kfm τ (jwR (jB0 (jwn τ 7) (x + 227)) x 2 (some (x + 227))) x (x + 227) ∧ (∀ k, ¬ k = 2 → (jwR (jB0 (jwn τ 7) (x + 227)) x 2 (some (x + 227))).2.1 x k = τ.2.1 x k) ∧ (jwR (jB0 (jwn τ 7) (x + 227)) x 2 (some (x + 227))).2.1 x 2 = some (x + 227) ∧ ((jwR (jB0 (jwn τ 7) (x + 227)) x 2 (some (x + 227))).2.1 (x + 227) 0 = some (x + 227 + 1) ∧ (jwR (jB0 (jwn τ 7) (x + 227)) x 2 (some (x + 227))).2.1 (x + 227) 2 = some (x + 227 + 2) ∧ (jwR (jB0 (jwn τ 7) (x + 227)) x 2 (some (x + 227))).2.1 (x + 227) 3 = some (x + 227 + 3) ∧ (jwR (jB0 (jwn τ 7) (x + 227)) x 2 (some (x + 227))).2.1 (x + 227) 4 = some (x + 227 + 4)) ∧ (∀ k, (jwR (jB0 (jwn τ 7) (x + 227)) x 2 (some (x + 227))).1 (x + 227) k = 0) ∧ ∀ k, (jwR (jB0 (jwn τ 7) (x + 227)) x 2 (some (x + 227))).1 (x + 227 + 1) k = 0 := by
  have n1 : jwt (jwn τ 7) = (x + 227) + 1 := by rw [jwt_n, hs]
  have N1 : x < x + 227 := Nat.lt_add_of_pos_right (by decide)
  have N2 : ¬ x + 227 = x := Nat.ne_of_gt N1
  have N4 : ¬ x = x + 227 := Nat.ne_of_lt N1
  obtain ⟨p1, _, _, p4, p5, p6, p7, p8, p9⟩ := jB0_f n1
  refine ⟨p1, kfm_t (kfm_t (kfm_n hs) (kfm_B n1) (Nat.le_refl _)) kfm_R (Nat.le_refl _), fun k hk => ?_, ?_, ⟨?_, ?_, ?_, ?_⟩, fun k => ?_, fun k => ?_⟩
  · rw [jRR, if_neg (fun z => hk z.2), p5 x k N1, jnR, if_neg (by rw [hs]; exact N4)]
  · rw [jRR, if_pos ⟨rfl, rfl⟩]
  · rw [jRR, if_neg (fun z => N2 z.1)]; exact p6
  · rw [jRR, if_neg (fun z => N2 z.1)]; exact p7
  · rw [jRR, if_neg (fun z => N2 z.1)]; exact p8
  · rw [jRR, if_neg (fun z => N2 z.1)]; exact p9
  · rw [jRI, p4 _ k (Nat.lt_succ_self _), jnI, if_pos hs.symm]
  · rw [jRI]; exact jB0_z n1 k
theorem kst4 {τ : jgS} {x : Nat} (hs : jwt τ = x + 232) : jwt (jwR (jwn τ 5) x 3 (some (x + 232))) = x + 233 ∧ kfm τ (jwR (jwn τ 5) x 3 (some (x + 232))) x (x + 232) ∧ (∀ k, ¬ k = 3 → (jwR (jwn τ 5) x 3 (some (x + 232))).2.1 x k = τ.2.1 x k) ∧ (jwR (jwn τ 5) x 3 (some (x + 232))).2.1 x 3 = some (x + 232) := by
  have N4 : ¬ x = x + 232 := Nat.ne_of_lt (Nat.lt_add_of_pos_right (by decide))
  refine ⟨by rw [jwtq_wR, jwt_n, hs], kfm_t (kfm_n hs) kfm_R (Nat.le_refl _), fun k hk => ?_, ?_⟩
  · rw [jRR, if_neg (fun z => hk z.2), jnR, if_neg (by rw [hs]; exact N4)]
  · rw [jRR, if_pos ⟨rfl, rfl⟩]
theorem nF_0a {G : jgG} {E : jgS} {x : Nat} (hw : jwt E = x + 238) (hG : G.1 ≤ x) (hl : jLx G x) (hg : (¬ G.1 ≤ G.2.1 ∧ G.2.2.2.2 G.2.1 = some (4, jLV)) ∧ ¬ G.1 ≤ G.2.2.1 ∧ G.2.2.2.2 G.2.2.1 = some (4, jGV)) (X0 : E.2.1 x 0 = some (x + 1)) (X1 : E.2.1 x 1 = some (x + 33)) (X2 : E.2.1 x 2 = some (x + 227)) (X3 : E.2.1 x 3 = some (x + 232)) (hTz : jTz G E (x + 1)) (hSz : ∀ j, j < 6 → jTz G E (x + 33 + 2 + 32 * j)) (hr : E.2.1 (x + 33) 0 = some (x + 33 + 1)) (hr2 : ∀ j, j < 6 → E.2.1 (x + 33 + 1) j = some (x + 33 + 2 + 32 * j)) (hb : E.2.1 (x + 227) 0 = some (x + 227 + 1) ∧ E.2.1 (x + 227) 2 = some (x + 227 + 2) ∧ E.2.1 (x + 227) 3 = some (x + 227 + 3) ∧ E.2.1 (x + 227) 4 = some (x + 227 + 4))  (hH0 : ∀ k, E.1 (x + 33) k = 0) (hB0 : ∀ k, E.1 (x + 227) k = 0) : nF G 0 E x mS0 := by
  obtain ⟨l0, l1, l2, l3, l4, l5, l6, l7, l8, l9, l10⟩ := hl
  have hz : jHz E (x + 33) = 0 := by unfold jHz; rw [hH0]; decide
  have hn : jn E (x + 1) = 0 := by unfold jn; rw [hTz.2.1 3 (by decide) (by decide)]; decide
  have v0 : ∀ n, 0 < n → n < 100 → vp_in 0 n := fun n h h' => vp_in_nI (n := 0) h (by omega)
  have J : ∀ a, x ≤ a → a < x + 238 → G.1 ≤ a ∧ a < jwt E := fun a h h' => ⟨Nat.le_trans hG h, by rw [hw]; exact h'⟩
  have hno : ∀ j, ¬ j < jn E (x + 1) := fun j => by rw [hn]; exact Nat.not_lt_zero j
  refine ⟨⟨⟨⟨J x (by omega) (by omega), l0⟩, X0, X1, X2, X3⟩, hTz.1, ⟨⟨⟨J _ (by omega) (by omega), l2⟩, hr, J _ (by omega) (by omega), l3⟩, hr2, fun i hi => (hSz i hi).1, by rw [hH0]; exact v0 6 (by decide) (by decide), by rw [hH0]; exact v0 7 (by decide) (by decide)⟩, ⟨⟨J _ (by omega) (by omega), l5⟩, hb, ⟨⟨J _ (by omega) (by omega), l6⟩, ⟨J _ (by omega) (by omega), l7⟩, ⟨J _ (by omega) (by omega), l8⟩, J _ (by omega) (by omega), l9⟩, by rw [hB0]; exact v0 61 (by decide) (by decide)⟩, ⟨J _ (by omega) (by omega), l10⟩, hg, fun j hj => absurd hj (hno j), fun j hj => absurd hj (hno j)⟩, kR_0 hTz, kI_0⟩
theorem nF_0 {G : jgG} {σ : jgS} {x : Nat} (hw : jwt σ = x) (hG : G.1 ≤ x) (hl : jLx G x) (hg : (¬ G.1 ≤ G.2.1 ∧ G.2.2.2.2 G.2.1 = some (4, jLV)) ∧ ¬ G.1 ≤ G.2.2.1 ∧ G.2.2.2.2 G.2.2.1 = some (4, jGV)) : nF G 0 (kZ6 σ x) x mS0 := by
  have h0 : jwt (jwn σ 4) = x + 1 := by rw [jwt_n, hw]
  have l33 : x + 33 ≤ x + 227 := Nat.add_le_add_left (by decide) x
  have l227 : x + 227 ≤ x + 232 := Nat.add_le_add_left (by decide) x
  have l232 : x + 232 ≤ x + 233 := Nat.add_le_add_left (by decide) x
  obtain ⟨w1, T1, r1⟩ := kst1 h0 hG hl
  show nF G 0 (jwn (jwn (jwn (jwn (jwn (jwR (jwn (jwR (jB0 (jwn (jwR (jHi (jwn (jX1 (jwn σ 4) x) 3) (x + 33) 6) x 1 (some (x + 33))) 7) (x + 227)) x 2 (some (x + 227))) 5) x 3 (some (x + 232))) 25) 63) 25) 63) 3) x mS0
  generalize jX1 (jwn σ 4) x = τ1 at *
  obtain ⟨w2, F2, x2, r2, a2, b2, S2, z2⟩ := kst2 w1 hG hl
  generalize jwR (jHi (jwn τ1 3) (x + 33) 6) x 1 (some (x + 33)) = τ2 at *
  obtain ⟨w3, F3, x3, r3, a3, z3, c3⟩ := kst3 w2
  generalize jwR (jB0 (jwn τ2 7) (x + 227)) x 2 (some (x + 227)) = τ3 at *
  obtain ⟨w4, F4, x4, r4⟩ := kst4 w3
  generalize jwR (jwn τ3 5) x 3 (some (x + 232)) = τ4 at *
  have N1 : jwt (jwn τ4 25) = x + 234 := by rw [jwt_n, w4]
  have N2 : jwt (jwn (jwn τ4 25) 63) = x + 235 := by rw [jwt_n, N1]
  have N3 : jwt (jwn (jwn (jwn τ4 25) 63) 25) = x + 236 := by rw [jwt_n, N2]
  have N4 : jwt (jwn (jwn (jwn (jwn τ4 25) 63) 25) 63) = x + 237 := by rw [jwt_n, N3]
  have w6 : jwt (jwn (jwn (jwn (jwn (jwn τ4 25) 63) 25) 63) 3) = x + 238 := by rw [jwt_n, N4]
  have F5 : kfm τ4 (jwn (jwn (jwn (jwn (jwn τ4 25) 63) 25) 63) 3) x (x + 233) := kfm_t (kfm_n w4) (kfm_t (kfm_n N1) (kfm_t (kfm_n N2) (kfm_t (kfm_n N3) (kfm_n N4) (by omega)) (by omega)) (by omega)) (by omega)
  have x6 : ∀ k, (jwn (jwn (jwn (jwn (jwn τ4 25) 63) 25) 63) 3).2.1 x k = τ4.2.1 x k := fun k => by
    rw [jnR, if_neg (by rw [N4]; omega), jnR, if_neg (by rw [N3]; omega), jnR, if_neg (by rw [N2]; omega), jnR, if_neg (by rw [N1]; omega), jnR, if_neg (by rw [w4]; omega)]
  generalize jwn (jwn (jwn (jwn (jwn τ4 25) 63) 25) 63) 3 = E at *
  have G5 : kfm τ4 E x (x + 233) := F5
  have G4 : kfm τ3 E x (x + 232) := kfm_t F4 G5 l232
  have G3 : kfm τ2 E x (x + 227) := kfm_t F3 G4 l227
  have G2 : kfm τ1 E x (x + 33) := kfm_t F2 G3 l33
  refine nF_0a w6 hG hl hg ?_ ?_ ?_ ?_ ?_ (fun j hj => ?_) ?_ (fun j hj => ?_) ?_ (fun k => ?_) (fun k => ?_)
  · rw [x6, x4 0 (by decide), x3 0 (by decide), x2 0 (by decide)]; exact r1
  · rw [x6, x4 1 (by decide), x3 1 (by decide)]; exact r2
  · rw [x6, x4 2 (by decide)]; exact r3
  · rw [x6]; exact r4
  · exact jTz_ext (fun a h h' k => G2 a (by omega) (by omega) k) (by omega) T1
  · exact jTz_ext (fun a h h' k => G3 a (by omega) (by omega) k) (by omega) (S2 j hj)
  · exact ((G3 _ (by omega) (by omega) 0).2).trans a2
  · exact ((G3 _ (by omega) (by omega) j).2).trans (b2 j hj)
  · exact ⟨((G4 _ (by omega) (by omega) 0).2).trans a3.1, ((G4 _ (by omega) (by omega) 2).2).trans a3.2.1, ((G4 _ (by omega) (by omega) 3).2).trans a3.2.2.1, ((G4 _ (by omega) (by omega) 4).2).trans a3.2.2.2⟩
  · exact ((G3 _ (by omega) (by omega) k).1).trans (z2 k)
  · exact ((G4 _ (by omega) (by omega) k).1).trans (z3 k)
/-- the two rows are empty at first -/
theorem lZ_0 {G : jgG} {σ : jgS} {x : Nat} (hw : jwt σ = x) (hG : G.1 ≤ x) (hl : jLx G x) : lw (kZ6 σ x) (x + 233) (x + 234) (fun _ => 0) = kZ6 σ x := by
  obtain ⟨w1, _, _⟩ := kZ_f hw hG hl
  unfold kZ6
  generalize kZ1 σ x = τ at *
  have N1 : jwt (jwn τ 25) = x + 234 := by rw [jwt_n, w1]
  have N2 : jwt (jwn (jwn τ 25) 63) = x + 235 := by rw [jwt_n, N1]
  have N3 : jwt (jwn (jwn (jwn τ 25) 63) 25) = x + 236 := by rw [jwt_n, N2]
  have N4 : jwt (jwn (jwn (jwn (jwn τ 25) 63) 25) 63) = x + 237 := by rw [jwt_n, N3]
  have e1 : ∀ k, (jwn (jwn (jwn (jwn (jwn τ 25) 63) 25) 63) 3).1 (x + 233) k = 0 := fun k => by
    rw [jnI, if_neg (by rw [N4]; omega), jnI, if_neg (by rw [N3]; omega), jnI, if_neg (by rw [N2]; omega), jnI, if_neg (by rw [N1]; omega), jnI, if_pos (by rw [w1])]
  have e2 : ∀ k, (jwn (jwn (jwn (jwn (jwn τ 25) 63) 25) 63) 3).1 (x + 234) k = 0 := fun k => by
    rw [jnI, if_neg (by rw [N4]; omega), jnI, if_neg (by rw [N3]; omega), jnI, if_neg (by rw [N2]; omega), jnI, if_pos (by rw [N1])]
  generalize jwn (jwn (jwn (jwn (jwn τ 25) 63) 25) 63) 3 = E at *
  have eS : lS E (x + 233) (x + 234) = fun _ => 0 := by
    funext c
    show (if _ then _ else _) = _
    split
    · exact e1 _
    · exact e2 _
  exact (congrArg (lw E (x + 233) (x + 234)) eS).symm.trans (lw_self (by omega))
theorem kZ6_f {G : jgG} {σ : jgS} {x : Nat} (hw : jwt σ = x) (hG : G.1 ≤ x) (hl : jLx G x) : jwt (kZ6 σ x) = x + 238 ∧ jhs (kZ6 σ x) = jhs σ + 238 ∧ jsl (kZ6 σ x) = jsl σ + 2228 := by
  obtain ⟨w1, u1, t1⟩ := kZ_f hw hG hl
  unfold kZ6
  simp only [jwt_n, jhs_n, jsl_n, w1, u1, t1]
  exact ⟨trivial, trivial, trivial⟩
