/-! the relation at the start -/
theorem jB0_z {σ : jgS} {B : Nat} (hw : jwt σ = B + 1) (k : Nat) : (jB0 σ B).1 (B + 1) k = 0 := by
  have e2 : B + 1 + 1 = B + 2 := rfl
  have e3 : B + 2 + 1 = B + 3 := rfl
  have e4 : B + 3 + 1 = B + 4 := rfl
  have d2 : ¬ B + 1 = B + 2 := by omega
  have d3 : ¬ B + 1 = B + 3 := by omega
  have d4 : ¬ B + 1 = B + 4 := by omega
  simp only [jB0, jRI, jnI, jwtq_wR, jwt_n, hw, e2, e3, e4, d2, d3, d4, if_false, if_true]
theorem jM0_b {σ : jgS} {m : Nat} (hw : jwt σ = m + 1) (k : Nat) : (jM0 σ m).1 (m + 4) k = 0 := by
  have e2 : m + 1 + 1 = m + 2 := rfl
  have e3 : m + 2 + 1 = m + 3 := rfl
  have e4 : m + 3 + 1 = m + 4 := rfl
  have e5 : m + 4 + 1 = m + 5 := rfl
  have d5 : ¬ m + 4 = m + 5 := by omega
  simp only [jM0, jRI, jnI, jwtq_wR, jwt_n, hw, e2, e3, e4, e5, d5, if_false, if_true]
def kS1 (σ : jgS) (x : Nat) : jgS := jX4 (jwn σ 4) x
def kS2 (σ : jgS) (x : Nat) : jgS := jM2 (jwn (kS1 σ x) 11) (x + 233) 4
def kS3 (σ : jgS) (x : Nat) : jgS := jwn (kS2 σ x) 1
def kfm (σ τ : jgS) (x n : Nat) : Prop := ∀ a, x < a → a < n → ∀ k, τ.1 a k = σ.1 a k ∧ τ.2.1 a k = σ.2.1 a k
theorem kfm_t {σ τ υ : jgS} {x n m : Nat} (h1 : kfm σ τ x n) (h2 : kfm τ υ x m) (hn : n ≤ m) : kfm σ υ x n := fun a h h' k => ⟨((h2 a h (by omega) k).1).trans (h1 a h h' k).1, ((h2 a h (by omega) k).2).trans (h1 a h h' k).2⟩
theorem kfm_n {σ : jgS} {x n c : Nat} (hw : jwt σ = n) : kfm σ (jwn σ c) x n := fun a h h' k => ⟨by rw [jnI, if_neg (by omega)], by rw [jnR, if_neg (by omega)]⟩
theorem kfm_R {σ : jgS} {x n k0 : Nat} {v : Option Nat} : kfm σ (jwR σ x k0 v) x n := fun a h h' k => ⟨rfl, by rw [jRR, if_neg (by omega)]⟩
theorem kS_f {G : jgG} {σ : jgS} {x : Nat} (hw : jwt σ = x) (hG : G.1 ≤ x) (hl : jLx G x) : (jwt (kS1 σ x) = x + 233 ∧ jhs (kS1 σ x) = jhs σ + 233 ∧ jsl (kS1 σ x) = jsl σ + 2049) ∧ (jwt (kS2 σ x) = x + 239 ∧ jhs (kS2 σ x) = jhs σ + 239 ∧ jsl (kS2 σ x) = jsl σ + 4072) ∧ (jwt (kS3 σ x) = x + 240 ∧ jhs (kS3 σ x) = jhs σ + 240 ∧ jsl (kS3 σ x) = jsl σ + 4073) := by
  have h0 : jwt (jwn σ 4) = x + 1 := by rw [jwt_n, hw]
  obtain ⟨_, _, _, d1, d2, d3⟩ := jX_f h0 hG hl
  have d1' : jwt (kS1 σ x) = x + 233 := d1
  have d2' : jhs (kS1 σ x) = jhs σ + 233 := by have e : jhs (kS1 σ x) = jhs (jwn σ 4) + 232 := d2; rw [e, jhs_n]
  have d3' : jsl (kS1 σ x) = jsl σ + 2049 := by have e : jsl (kS1 σ x) = jsl (jwn σ 4) + 2045 := d3; rw [e, jsl_n]
  have h1 : jwt (jwn (kS1 σ x) 11) = (x + 233) + 1 := by rw [jwt_n, d1']
  obtain ⟨f1, f2, f3, _⟩ := jM0_f h1
  have e := jM2_2 (jwn (kS1 σ x) 11) (x + 233) 4
  have g1 : jwt (kS2 σ x) = x + 239 := by
    have : jwt (kS2 σ x) = jwt (jM0 (jwn (kS1 σ x) 11) (x + 233)) := by unfold kS2 jwt; rw [e]
    rw [this, f1]
  have g2 : jhs (kS2 σ x) = jhs σ + 239 := by
    have : jhs (kS2 σ x) = jhs (jM0 (jwn (kS1 σ x) 11) (x + 233)) := by unfold kS2 jhs; rw [e]
    rw [this, f2, jhs_n, d2']
  have g3 : jsl (kS2 σ x) = jsl σ + 4072 := by
    have : jsl (kS2 σ x) = jsl (jM0 (jwn (kS1 σ x) 11) (x + 233)) := by unfold kS2 jsl; rw [e]
    rw [this, f3, jsl_n, d3']
  exact ⟨⟨d1', d2', d3'⟩, ⟨g1, g2, g3⟩, by rw [kS3, jwt_n, g1], by rw [kS3, jhs_n, g2], by rw [kS3, jsl_n, g3]⟩
theorem mS0_N : mN mS0 = 0 := by decide
theorem kI_0 : kI 0 mS0 := by
  refine ⟨⟨by decide, by decide⟩, 0, 0, 5, by decide, by decide, by decide, by decide, ⟨by decide, by decide, by decide⟩, vp_in_nI (n := 4) (by decide) (by decide), fun i hi => ?_, fun i hi => ?_, fun i j h hj => ?_⟩
  · rw [mS0_N] at hi; omega
  · rw [mS0_N] at hi; omega
  · rw [mS0_N] at hj; omega
theorem kR_0 {G : jgG} {σ : jgS} {h : Nat} (hz : jTz G σ h) : kR σ h mS0 := by
  obtain ⟨_, h1, ⟨a0, a1, a2, a3⟩, h3⟩ := hz
  refine ⟨⟨h1 3 (by decide) (by decide), h1 4 (by decide) (by decide), h1 5 (by decide) (by decide), h1 6 (by decide) (by decide), h1 7 (by decide) (by decide)⟩, fun k hk => ?_, fun r hr p hp => ?_, fun i hi => ?_⟩
  · have hk' : k = 0 ∨ k = 1 ∨ k = 2 ∨ k = 3 := by omega
    rcases hk' with rfl | rfl | rfl | rfl
    · exact a0
    · exact a1
    · exact a2
    · exact a3
  · rw [h3 r hr p]
    have hr' : r = 0 ∨ r = 1 ∨ r = 2 ∨ r = 3 := by omega
    have hp' : p = 0 ∨ p = 1 ∨ p = 2 ∨ p = 3 := by omega
    rcases hr' with rfl | rfl | rfl | rfl <;> rcases hp' with rfl | rfl | rfl | rfl <;> decide
  · rw [mS0_N] at hi; omega
/-- the relation before the first call -/
theorem kF_0 {G : jgG} {σ : jgS} {x : Nat} (hw : jwt σ = x) (hG : G.1 ≤ x) (hl : jLx G x) (hm : jLm7 G (x + 233)) (hg : (¬ G.1 ≤ G.2.1 ∧ G.2.2.2.2 G.2.1 = some (4, jLV)) ∧ ¬ G.1 ≤ G.2.2.1 ∧ G.2.2.2.2 G.2.2.1 = some (4, jGV)) : kF G 0 (kS3 σ x) x := by
  obtain ⟨⟨w1, _, _⟩, ⟨w2, _, _⟩, ⟨w3, _, _⟩⟩ := kS_f hw hG hl
  have h0 : jwt (jwn σ 4) = x + 1 := by rw [jwt_n, hw]
  obtain ⟨⟨a1, _⟩, ⟨b1, _⟩, ⟨c1, _⟩, _⟩ := jX_f h0 hG hl
  obtain ⟨l0, l1, l2, l3, l4, l5, l6, l7, l8, l9, l10⟩ := hl
  have es : kS1 σ x = jX4 (jwn σ 4) x := rfl
  have n0 : ∀ a k, a = x → (jwn σ 4).1 a k = 0 := fun a k ha => by rw [jnI, if_pos (by omega)]
  -- the main table
  have h1 : jwt (jwn (jwn σ 4) 8) = (x + 1) + 1 := by rw [jwt_n, h0]
  have T1 : jTz G (jTd (jwn (jwn σ 4) 8) (x + 1) 4) (x + 1) := jTz_new h1 (by omega) l1 (fun k _ _ => by rw [jnI, if_pos h0.symm])
  have F1 : kfm (jTd (jwn (jwn σ 4) 8) (x + 1) 4) (jX1 (jwn σ 4) x) x (x + 33) := kfm_R
  -- the history
  have h2 : jwt (jwn (jX1 (jwn σ 4) x) 3) = (x + 33) + 1 := by rw [jwt_n, a1]
  obtain ⟨p1, _, _, p4, p5, p6, p7, p8⟩ := jHi_f (G := G) h2 (by omega) l4 6 (Nat.le_refl _)
  have F2 : kfm (jwn (jX1 (jwn σ 4) x) 3) (jHi (jwn (jX1 (jwn σ 4) x) 3) (x + 33) 6) x (x + 33) := fun a h h' k => ⟨p4 a k (by omega), p5 a k h'⟩
  have F12 : kfm (jX1 (jwn σ 4) x) (jX2 (jwn σ 4) x) x (x + 33) := kfm_t (kfm_t (kfm_n a1) F2 (Nat.le_refl _)) kfm_R (Nat.le_refl _)
  have F2' : kfm (jHi (jwn (jX1 (jwn σ 4) x) 3) (x + 33) 6) (jX2 (jwn σ 4) x) x (x + 227) := kfm_R
  -- the buffer
  have h3 : jwt (jwn (jX2 (jwn σ 4) x) 7) = (x + 227) + 1 := by rw [jwt_n, b1]
  obtain ⟨q1, _, _, q4, q5, q6⟩ := jB0_f h3
  have F3 : kfm (jwn (jX2 (jwn σ 4) x) 7) (jB0 (jwn (jX2 (jwn σ 4) x) 7) (x + 227)) x (x + 227) := fun a h h' k => ⟨q4 a k (by omega), q5 a k h'⟩
  have F23 : kfm (jX2 (jwn σ 4) x) (jX3 (jwn σ 4) x) x (x + 227) := kfm_t (kfm_t (kfm_n b1) F3 (Nat.le_refl _)) kfm_R (Nat.le_refl _)
  have F3' : kfm (jB0 (jwn (jX2 (jwn σ 4) x) 7) (x + 227)) (jX3 (jwn σ 4) x) x (x + 232) := kfm_R
  have F34 : kfm (jX3 (jwn σ 4) x) (kS1 σ x) x (x + 232) := kfm_t (kfm_n c1) kfm_R (Nat.le_refl _)
  -- the model
  have h5 : jwt (jwn (kS1 σ x) 11) = (x + 233) + 1 := by rw [jwt_n, w1]
  obtain ⟨_, _, _, f4, f5, ⟨r1, r2, r3, r5, r7⟩, f7⟩ := jM0_f h5
  have e22 : (kS2 σ x).2 = (jM0 (jwn (kS1 σ x) 11) (x + 233)).2 := jM2_2 _ _ 4
  have e21 : ∀ a k, ¬ a = x + 234 → (kS2 σ x).1 a k = (jM0 (jwn (kS1 σ x) 11) (x + 233)).1 a k := fun a k ha => jM2_o ha k 4
  have F45 : kfm (kS1 σ x) (kS2 σ x) x (x + 233) := kfm_t (kfm_n w1) (m := x + 233) (fun a h h' k => ⟨(e21 a k (by omega)).trans (f4 a k (by omega)), by rw [e22]; exact f5 a k h'⟩) (Nat.le_refl _)
  have F56 : kfm (kS2 σ x) (kS3 σ x) x (x + 239) := kfm_n w2
  have F46 : kfm (kS1 σ x) (kS3 σ x) x (x + 233) := kfm_t F45 F56 (by omega)
  have F36 : kfm (jX3 (jwn σ 4) x) (kS3 σ x) x (x + 232) := kfm_t F34 F46 (by omega)
  have F26 : kfm (jX2 (jwn σ 4) x) (kS3 σ x) x (x + 227) := kfm_t F23 F36 (by omega)
  have F16 : kfm (jX1 (jwn σ 4) x) (kS3 σ x) x (x + 33) := kfm_t F12 F26 (by omega)
  have FT : kfm (jTd (jwn (jwn σ 4) 8) (x + 1) 4) (kS3 σ x) x (x + 33) := kfm_t F1 F16 (Nat.le_refl _)
  have FH : kfm (jHi (jwn (jX1 (jwn σ 4) x) 3) (x + 33) 6) (kS3 σ x) x (x + 227) := kfm_t F2' F26 (Nat.le_refl _)
  have FB : kfm (jB0 (jwn (jX2 (jwn σ 4) x) 7) (x + 227)) (kS3 σ x) x (x + 232) := kfm_t F3' F36 (Nat.le_refl _)
  -- what x points at
  have x6 : ∀ k, (kS3 σ x).2.1 x k = (kS1 σ x).2.1 x k := fun k => by
    rw [kS3, jnR, if_neg (by omega), e22, f5 x k (by omega), jnR, if_neg (by omega)]
  have x4 : ∀ k, ¬ k = 3 → (kS1 σ x).2.1 x k = (jX3 (jwn σ 4) x).2.1 x k := fun k hk => by
    rw [es, jX4, jRR, if_neg (by omega), jnR, if_neg (by omega)]
  have x3 : ∀ k, ¬ k = 2 → (jX3 (jwn σ 4) x).2.1 x k = (jX2 (jwn σ 4) x).2.1 x k := fun k hk => by
    rw [jX3, jRR, if_neg (by omega), q5 x k (by omega), jnR, if_neg (by omega)]
  have x2 : ∀ k, ¬ k = 1 → (jX2 (jwn σ 4) x).2.1 x k = (jX1 (jwn σ 4) x).2.1 x k := fun k hk => by
    rw [jX2, jRR, if_neg (by omega), p5 x k (by omega), jnR, if_neg (by omega)]
  have X0 : (kS3 σ x).2.1 x 0 = some (x + 1) := by rw [x6, x4 0 (by decide), x3 0 (by decide), x2 0 (by decide), jX1, jRR, if_pos ⟨rfl, rfl⟩]
  have X1 : (kS3 σ x).2.1 x 1 = some (x + 33) := by rw [x6, x4 1 (by decide), x3 1 (by decide), jX2, jRR, if_pos ⟨rfl, rfl⟩]
  have X2 : (kS3 σ x).2.1 x 2 = some (x + 227) := by rw [x6, x4 2 (by decide), jX3, jRR, if_pos ⟨rfl, rfl⟩]
  have X3 : (kS3 σ x).2.1 x 3 = some (x + 232) := by rw [x6, es, jX4, jRR, if_pos ⟨rfl, rfl⟩]
  -- the tables
  have hTz : jTz G (kS3 σ x) (x + 1) := jTz_ext (fun a h h' k => FT a (by omega) (by omega) k) (by have e : jwt (jTd (jwn (jwn σ 4) 8) (x + 1) 4) = x + 33 := a1; omega) T1
  have hSz : ∀ j, j < 6 → jTz G (kS3 σ x) (x + 33 + 2 + 32 * j) := fun j hj => jTz_ext (fun a h h' k => FH a (by omega) (by omega) k) (by omega) (p8 j hj)
  have hH0 : ∀ k, (kS3 σ x).1 (x + 33) k = 0 := fun k => ((FH (x + 33) (by omega) (by omega) k).1).trans ((p4 (x + 33) k (by omega)).trans (by rw [jnI, if_pos a1.symm]))
  have hB0 : ∀ k, (kS3 σ x).1 (x + 227) k = 0 := fun k => ((FB (x + 227) (by omega) (by omega) k).1).trans ((q4 (x + 227) k (by omega)).trans (by rw [jnI, if_pos b1.symm]))
  have hC0 : ∀ k, (kS3 σ x).1 (x + 227 + 1) k = 0 := fun k => ((FB (x + 228) (by omega) (by omega) k).1).trans (jB0_z h3 k)
  have hM0 : ∀ k, (kS3 σ x).1 (x + 233) k = 0 := fun k => ((F56 (x + 233) (by omega) (by omega) k).1).trans ((e21 _ k (by omega)).trans ((f4 _ k (by omega)).trans (by rw [jnI, if_pos w1.symm])))
  have hD0 : ∀ k, (kS3 σ x).1 (x + 233 + 4) k = 0 := fun k => ((F56 (x + 233 + 4) (by omega) (by omega) k).1).trans ((e21 _ k (by omega)).trans (jM0_b h5 k))
  have hS0 : (kS3 σ x).1 (x + 233 + 1) = mS0 := funext fun k => ((F56 (x + 233 + 1) (by omega) (by omega) k).1).trans (congrFun (jM2_S h5) k)
  have hz : jHz (kS3 σ x) (x + 33) = 0 := by unfold jHz; rw [hH0]; decide
  have hn : jn (kS3 σ x) (x + 1) = 0 := by unfold jn; rw [hTz.2.1 3 (by decide) (by decide)]; decide
  have v0 : ∀ n, 0 < n → n < 100 → vp_in 0 n := fun n h h' => vp_in_nI (n := 0) h (by omega)
  refine ⟨⟨⟨⟨⟨hG, by omega⟩, l0⟩, X0, X1, X2, X3⟩, hTz.1, ⟨⟨⟨⟨by omega, by omega⟩, l2⟩, (FH _ (by omega) (by omega) 0).2.trans p6, ⟨by omega, by omega⟩, l3⟩, fun i hi => ((FH (x + 33 + 1) (by omega) (by omega) i).2).trans (p7 i hi), fun i hi => (hSz i hi).1, by rw [hH0]; exact v0 6 (by decide) (by decide), by rw [hH0]; exact v0 7 (by decide) (by decide)⟩, ⟨⟨⟨by omega, by omega⟩, l5⟩, ⟨((FB _ (by omega) (by omega) 0).2).trans q6.1, ((FB _ (by omega) (by omega) 2).2).trans q6.2.1, ((FB _ (by omega) (by omega) 3).2).trans q6.2.2.1, ((FB _ (by omega) (by omega) 4).2).trans q6.2.2.2⟩, ⟨⟨⟨by omega, by omega⟩, l6⟩, ⟨⟨by omega, by omega⟩, l7⟩, ⟨⟨by omega, by omega⟩, l8⟩, ⟨by omega, by omega⟩, l9⟩, by rw [hB0]; exact v0 61 (by decide) (by decide)⟩, ⟨⟨by omega, by omega⟩, l10⟩, hg, fun j hj => by omega, fun j hj => by omega⟩, ?_, ?_, ?_, ⟨?_, fun j hj => by omega⟩, ?_, ?_⟩
  · obtain ⟨m0, m1, m2, m3, m4, m5⟩ := hm
    have e : ∀ k, (kS3 σ x).2.1 (x + 233) k = (jM0 (jwn (kS1 σ x) 11) (x + 233)).2.1 (x + 233) k := fun k => ((F56 (x + 233) (by omega) (by omega) k).2).trans (by rw [e22])
    exact ⟨⟨⟨by omega, by omega⟩, m0⟩, ⟨(e 1).trans r1, (e 2).trans r2, (e 3).trans r3, (e 5).trans r5, (e 7).trans r7⟩, ⟨⟨by omega, by omega⟩, m1⟩, ⟨⟨by omega, by omega⟩, m2⟩, ⟨⟨by omega, by omega⟩, m3⟩, ⟨⟨by omega, by omega⟩, m4⟩, ⟨⟨by omega, by omega⟩, m5⟩⟩
  · rw [hS0]; exact kR_0 hTz
  · rw [hS0]; exact kI_0
  · rw [hH0, hM0]
  · rw [hB0, hM0]
  · exact funext fun k => (hC0 k).trans (hD0 k).symm
/-- the relation does not speak of the long rows -/
theorem kF_Y {G : jgG} {c : Nat} {σ : jgS} {x a k : Nat} {v : Int64} (hF : kF G c σ x) : kF G c (jwY σ a k v) x :=
  kF_ro hF ⟨rfl, rfl⟩ (fun _ _ => rfl) rfl rfl rfl rfl rfl rfl rfl
