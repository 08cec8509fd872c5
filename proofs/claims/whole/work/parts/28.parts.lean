/-! SkipRows$Buffer: readParts -/
theorem jwB_wB (σ : jgS) (B : Nat) (s t : jPS) : jwB (jwB σ B s) B t = jwB σ B t := by
  refine Prod.ext (funext fun a => funext fun k => ?_) rfl
  show (if _ then _ else if _ then _ else if _ then _ else if _ then _ else if _ then _ else (if _ then _ else if _ then _ else if _ then _ else if _ then _ else if _ then _ else _)) = (if _ then _ else if _ then _ else if _ then _ else if _ then _ else if _ then _ else _)
  by_cases c1 : a = B ∧ k = 6
  · simp only [if_pos c1]
  by_cases c2 : a = B ∧ k = 5
  · simp only [if_neg c1, if_pos c2]
  by_cases c3 : a = B + 2
  · simp only [if_neg c1, if_neg c2, if_pos c3]
  by_cases c4 : a = B + 3
  · simp only [if_neg c1, if_neg c2, if_neg c3, if_pos c4]
  by_cases c5 : a = B + 4
  · simp only [if_neg c1, if_neg c2, if_neg c3, if_neg c4, if_pos c5]
  simp only [if_neg c1, if_neg c2, if_neg c3, if_neg c4, if_neg c5]
theorem jBuf_wB {G : jgG} {σ : jgS} {B : Nat} {s : jPS} (h : jBuf G σ B) : jBuf G (jwB σ B s) B := by
  obtain ⟨h1, h2, h3, h4⟩ := h
  exact ⟨h1, h2, h3, by rw [jwB_1]; exact h4⟩
def jpst (c : Nat → Int32) (k : Nat) (s : jPS) : jPS := if s.1 = 7 then s else if jpb s.1 (c k) = 7 then (7, s.2) else jpn (jpb s.1 (c k), s.2) (c k - 48)
def jPG (σ : jgS) (B k : Nat) : jPS := jfd (jpst (σ.1 (B + 1))) k (0, 0, σ.1 (B + 2), σ.1 (B + 3), σ.1 (B + 4))
theorem jPG_s (σ : jgS) (B k : Nat) : jPG σ B (k + 1) = jpst (σ.1 (B + 1)) k (jPG σ B k) := rfl
theorem jpn_p (s : jPS) (d : Int32) : (jpn s d).1 = s.1 := by unfold jpn; (repeat' split) <;> rfl
theorem jpn_20 {s : jPS} (d : Int32) (h : s.2.1 ≤ 20) : (jpn s d).2.1 ≤ 20 := by
  unfold jpn
  split
  · rename_i q; exact q.2
  · split
    · exact h
    · split <;> exact h
theorem jPG_le (σ : jgS) (B : Nat) : ∀ k, (jPG σ B k).1 < 8 ∧ (jPG σ B k).2.1 ≤ 20
  | 0 => ⟨by show (0 : Nat) < 8; decide, by show (0 : Nat) ≤ 20; decide⟩
  | k + 1 => by
    obtain ⟨h1, h2⟩ := jPG_le σ B k
    rw [jPG_s]
    unfold jpst
    split
    · exact ⟨h1, h2⟩
    · split
      · exact ⟨by show (7 : Nat) < 8; decide, h2⟩
      · have := jpb_le (jPG σ B k).1 (σ.1 (B + 1) k)
        exact ⟨by rw [jpn_p]; dsimp only; omega, jpn_20 _ h2⟩
theorem jPG_fr {σ : jgS} {B k m : Nat} (h : (jPG σ B k).1 = 7) (hm : k ≤ m) : jPG σ B m = jPG σ B k := by
  obtain ⟨d, rfl⟩ : ∃ d, m = k + d := ⟨m - k, by omega⟩
  clear hm
  induction d with
  | zero => rfl
  | succ d ih =>
    rw [← Nat.add_assoc, jPG_s, ih]
    exact if_pos h
theorem jct_end {p : Nat → Prop} [DecidablePred p] {i n : Nat} (h : ∀ k, i ≤ k → ¬ p k) (hi : i ≤ n) : jct p n = jct p i := by
  obtain ⟨d, rfl⟩ : ∃ d, n = i + d := ⟨n - i, by omega⟩
  clear hi
  induction d with
  | zero => rfl
  | succ d ih => exact (jct_n (h (i + d) (by omega))).trans ih
def Pp_X0_readParts (G : jgG) (B : Nat) (σ : jgS) : Prop := jBuf G σ B
def Ff_X0_readParts (G : jgG) (B : Nat) (σ : jgS) : jgR := (.inl (some (.int (nI (jct (fun k => ¬ (jPG σ B (k + 1)).1 = 7) (jBn σ B))))), jwB σ B (jPG σ B (jBn σ B)))
def P_X0_readParts (G : jgG) (As : List Value) (σ : jgS) : Prop := ∃ B : Nat, As = [.ref B] ∧ Pp_X0_readParts G B σ
def F_X0_readParts (G : jgG) (As : List Value) (σ : jgS) : jgR := Ff_X0_readParts G (jaR As 0) σ
def S_X0_readParts (G : jgG) : jgSpec := jsp (P_X0_readParts G) (F_X0_readParts G)
theorem PX_X0_readParts {G : jgG} {B : Nat} {σ : jgS} : P_X0_readParts G [.ref B] σ ↔ Pp_X0_readParts G B σ := by unfold P_X0_readParts; simp [and_assoc]
theorem FX_X0_readParts {G : jgG} {B : Nat} {σ : jgS} : F_X0_readParts G [.ref B] σ = Ff_X0_readParts G B σ := rfl
def I_X0_readParts : jgI := (0, 0, yX0_readParts, cX0_readParts, 2, (some .int), 0, 2, 41, [])
theorem jd_X0_readParts : I_X0_readParts.2.2.1.cls ≠ "java/lang/invoke/MethodHandle" ∧ I_X0_readParts.2.2.1.cls ≠ "java/lang/invoke/VarHandle" ∧ (parseMethodDescriptor I_X0_readParts.2.2.1.desc).map (fun d => d.parameters.length) = some I_X0_readParts.2.2.2.2.2.2.1 := ⟨by decide +kernel, by decide +kernel, by decide +kernel⟩
def M_X0_readParts (G : jgG) : jgM := (cX0_readParts, [(9, jpF 0 0), (24, jpF 0 1), (28, jpF 0 5), (31, jpF 0 6), (34, jpC I_X0_placeBehind (S_X0_placeBehind G)), (38, jpC I_X0_noteCode (S_X0_noteCode G))], [], [], (some .int), false)
theorem bd_X0_readParts (G : jgG) : ∀ (As : List Value) (σ : jgS) (r : jgR), S_X0_readParts G As σ r → jhs σ ≤ jhs r.2 ∧ jsl σ ≤ jsl r.2 ∧ (jent As).length ≤ I_X0_readParts.2.2.2.2.1 ∧ Jr G (M_X0_readParts G) 0 (jentry As I_X0_readParts.2.2.2.2.1) [] σ (fun r' => r' = r) := by
  rintro As σ r ⟨⟨B, rfl, hp⟩, rfl⟩
  rw [FX_X0_readParts]
  refine ⟨(by first | exact Nat.le_refl _ | (show _ ≤ _; simp only [F_X0_readParts, Ff_X0_readParts]; (repeat' split) <;> first | exact Nat.le_refl _ | exact Nat.le_succ _ | exact Nat.le_add_right _ _)), (by first | exact Nat.le_refl _ | (show _ ≤ _; simp only [F_X0_readParts, Ff_X0_readParts]; (repeat' split) <;> first | exact Nat.le_refl _ | exact Nat.le_succ _ | exact Nat.le_add_right _ _)), by simp [jent, Value.category, I_X0_readParts], ?_⟩
  show Jr G (M_X0_readParts G) 0 [some (.ref B), none] [] σ (fun r' => r' = Ff_X0_readParts G B σ)
  have hp0 : jBuf G σ B := hp
  obtain ⟨t0, ⟨t1, t2, t3, t4⟩, ⟨⟨a1, k1⟩, ⟨a2, k2⟩, ⟨a3, k3⟩, ⟨a4, k4⟩⟩, hlen⟩ := hp
  obtain ⟨n, hn61, hn⟩ := vp_in_of hlen (by decide)
  have hnB : jBn σ B = n := by unfold jBn; rw [hn]; exact nI_clamp (by omega)
  have hB0 : jwI (jwI σ B 5 0) B 6 0 = jwB σ B (jPG σ B 0) := by
    refine Prod.ext (funext fun a => funext fun k => ?_) rfl
    rw [jI_wI, jI_wI]
    show _ = (if _ then _ else if _ then _ else if a = B + 2 then σ.1 (B + 2) k else if a = B + 3 then σ.1 (B + 3) k else if a = B + 4 then σ.1 (B + 4) k else _)
    by_cases c1 : a = B ∧ k = 6
    · rw [if_pos c1, if_pos c1]; rfl
    by_cases c2 : a = B ∧ k = 5
    · rw [if_neg c1, if_pos c2, if_neg c1, if_pos c2]; rfl
    rw [if_neg c1, if_neg c2, if_neg c1, if_neg c2]
    by_cases c3 : a = B + 2
    · rw [if_pos c3, c3]
    by_cases c4 : a = B + 3
    · rw [if_neg c3, if_pos c4, c4]
    by_cases c5 : a = B + 4
    · rw [if_neg c3, if_neg c4, if_pos c5, c5]
    rw [if_neg c3, if_neg c4, if_neg c5]
  simp only [jq_aload0 (M := M_X0_readParts G) 1 dX0_readParts_0 rfl, jq_iconst (M := M_X0_readParts G) 0 2 dX0_readParts_1 (by decide) rfl, jq_putI (M := M_X0_readParts G) 0 5 5 dX0_readParts_2 rfl rfl rfl, jq_aload0 (M := M_X0_readParts G) 6 dX0_readParts_5 rfl, jq_iconst (M := M_X0_readParts G) 0 7 dX0_readParts_6 (by decide) rfl, jq_putI (M := M_X0_readParts G) 0 6 10 dX0_readParts_7 rfl rfl rfl, jq_iconst (M := M_X0_readParts G) 0 11 dX0_readParts_10 (by decide) rfl, jq_istore1 (M := M_X0_readParts G) 12 dX0_readParts_11 rfl, eq_self, jref_10, jref_11, jref_12, jk_v, jk_n, jcat_nil, jcat_i, jcat_r, jcat_l, jcat_d, jc2_i, jc2_r, jc2_n, jc1_i, jc1_r, jrf_some, jwtq_wI, jwtq_wh, jR_wI, jI_wh, jR_wh, List.cons.injEq, Value.int.injEq, Value.ref.injEq, Value.long.injEq, Value.double.injEq, true_and, and_true, and_self, Nat.reduceAdd, Nat.reduceLeDiff, if_true, if_false, ite_true, ite_false, jc1q_i, jc1q_r, jc1q_l, jwtq_wR, jwtq_wY, jI_wI, Nat.reduceEqDiff, and_false, false_and, not_false_eq_true, not_true_eq_false, t0, t1, t2, t3, t4, a1, k1, a2, k2, a3, k3, a4, k4, hn, jwB_2, jwB_wt, jwB_1, jwB_c, jnr_i]
  refine jst0 hB0.symm ?_
  refine (jloop (P := fun i => (jct (fun k => ¬ (jPG σ B (k + 1)).1 = 7) (i) = i ∧ ¬ (jPG σ B i).1 = 7) → Jr G (M_X0_readParts G) 12 [some (.ref B), some (.int (nI i))] [] (jwB σ B (jPG σ B i)) (fun r' => r' = Ff_X0_readParts G B σ)) (n := n) (fun  hy => ?_) (fun i hlt ih  hy => ?_))  ⟨rfl, by show ¬ (0 : Nat) = 7; decide⟩
  · show Jr G (M_X0_readParts G) 12 _ _ _ _
    rw [jq_iload1 (M := M_X0_readParts G) 13 dX0_readParts_12 rfl]
    simp only [jq_aload0 (M := M_X0_readParts G) 1 dX0_readParts_0 rfl, jq_iconst (M := M_X0_readParts G) 0 2 dX0_readParts_1 (by decide) rfl, jq_putI (M := M_X0_readParts G) 0 5 5 dX0_readParts_2 rfl rfl rfl, jq_aload0 (M := M_X0_readParts G) 6 dX0_readParts_5 rfl, jq_iconst (M := M_X0_readParts G) 0 7 dX0_readParts_6 (by decide) rfl, jq_putI (M := M_X0_readParts G) 0 6 10 dX0_readParts_7 rfl rfl rfl, jq_iconst (M := M_X0_readParts G) 0 11 dX0_readParts_10 (by decide) rfl, jq_istore1 (M := M_X0_readParts G) 12 dX0_readParts_11 rfl, jq_aload0 (M := M_X0_readParts G) 14 dX0_readParts_13 rfl, jq_getI (M := M_X0_readParts G) 0 1 17 dX0_readParts_14 rfl rfl rfl, jq_icmp_ge (M := M_X0_readParts G) 64 20 dX0_readParts_17 (by decide) rfl, jq_aload0 (M := M_X0_readParts G) 21 dX0_readParts_20 rfl, jq_aload0 (M := M_X0_readParts G) 22 dX0_readParts_21 rfl, jq_aload0 (M := M_X0_readParts G) 23 dX0_readParts_22 rfl, jq_getR (M := M_X0_readParts G) 0 0 26 dX0_readParts_23 rfl rfl rfl, jq_iload1 (M := M_X0_readParts G) 27 dX0_readParts_26 rfl, jq_iald (M := M_X0_readParts G) 28 dX0_readParts_27 rfl, jq_virt1 (M := M_X0_readParts G) I_X0_placeBehind 0 dX0_readParts_28 rfl rfl rfl rfl, jq_putI (M := M_X0_readParts G) 0 6 34 dX0_readParts_31 rfl rfl rfl, jq_aload0 (M := M_X0_readParts G) 35 dX0_readParts_34 rfl, jq_getI (M := M_X0_readParts G) 0 6 38 dX0_readParts_35 rfl rfl rfl, jq_bipush (M := M_X0_readParts G) 7 40 dX0_readParts_38 (by decide) rfl, jq_icmp_ne (M := M_X0_readParts G) 45 43 dX0_readParts_40 (by decide) rfl, jq_iload1 (M := M_X0_readParts G) 44 dX0_readParts_43 rfl, jq_iret (M := M_X0_readParts G) .int dX0_readParts_44 rfl, jq_aload0 (M := M_X0_readParts G) 46 dX0_readParts_45 rfl, jq_aload0 (M := M_X0_readParts G) 47 dX0_readParts_46 rfl, jq_getR (M := M_X0_readParts G) 0 0 50 dX0_readParts_47 rfl rfl rfl, jq_iload1 (M := M_X0_readParts G) 51 dX0_readParts_50 rfl, jq_iald (M := M_X0_readParts G) 52 dX0_readParts_51 rfl, jq_bipush (M := M_X0_readParts G) 48 54 dX0_readParts_52 (by decide) rfl, jq_isub (M := M_X0_readParts G) 55 dX0_readParts_54 rfl, jq_virt1 (M := M_X0_readParts G) I_X0_noteCode 0 dX0_readParts_55 rfl rfl rfl rfl, jq_iinc1 (M := M_X0_readParts G) 1 61 dX0_readParts_58 (by decide) rfl, jq_goto (M := M_X0_readParts G) 12 dX0_readParts_61 (by decide), jq_aload0 (M := M_X0_readParts G) 65 dX0_readParts_64 rfl, jq_getI (M := M_X0_readParts G) 0 1 68 dX0_readParts_65 rfl rfl rfl, jq_iret (M := M_X0_readParts G) .int dX0_readParts_68 rfl, eq_self, jref_10, jref_11, jref_12, jk_v, jk_n, jcat_nil, jcat_i, jcat_r, jcat_l, jcat_d, jc2_i, jc2_r, jc2_n, jc1_i, jc1_r, jrf_some, jwtq_wI, jwtq_wh, jR_wI, jI_wh, jR_wh, List.cons.injEq, Value.int.injEq, Value.ref.injEq, Value.long.injEq, Value.double.injEq, true_and, and_true, and_self, Nat.reduceAdd, Nat.reduceLeDiff, if_true, if_false, ite_true, ite_false, jc1q_i, jc1q_r, jc1q_l, jwtq_wR, jwtq_wY, jI_wI, Nat.reduceEqDiff, and_false, false_and, not_false_eq_true, not_true_eq_false, t0, t1, t2, t3, t4, a1, k1, a2, k2, a3, k3, a4, k4, hn, jwB_2, jwB_wt, jwB_1, jwB_c, jnr_i, Int32.le_refl]
    unfold Ff_X0_readParts
    rw [hnB, hy.1]
  · show Jr G (M_X0_readParts G) 12 _ _ _ _
    obtain ⟨hy1, hy7⟩ := hy
    have hc : ¬ nI n ≤ nI i := nI_ge hlt (by omega)
    have hv : vp_in (nI i) 60 := vp_in_nI (by omega) (by decide)
    have hcl : (nI i).toNatClampNeg = i := nI_clamp (by omega)
    obtain ⟨h8, h20⟩ := jPG_le σ B i
    have hv7 : vp_in (nI (jPG σ B i).1) 7 := vp_in_nI (by omega) (by decide)
    have hc7 : (nI (jPG σ B i).1).toNatClampNeg = (jPG σ B i).1 := nI_clamp (by omega)
    have hq8 := jpb_le (jPG σ B i).1 (σ.1 (B + 1) i)
    have hq7 : nI (jpb (jPG σ B i).1 (σ.1 (B + 1) i)) = 7 ↔ jpb (jPG σ B i).1 (σ.1 (B + 1) i) = 7 := nI_eq (b := 7) (by omega) (by decide)
    by_cases hw : jpb (jPG σ B i).1 (σ.1 (B + 1) i) = 7
    · have e1 : jPG σ B (i + 1) = (7, (jPG σ B i).2) := by rw [jPG_s]; unfold jpst; rw [if_neg hy7, if_pos hw]
      have e2 : jPG σ B n = (7, (jPG σ B i).2) := (jPG_fr (by rw [e1]) hlt).trans e1
      have e3 : jct (fun k => ¬ (jPG σ B (k + 1)).1 = 7) (n) = i := (jct_end (fun k hk => fun q => q (by rw [jPG_fr (k := i + 1) (by rw [e1]) (by omega), e1])) (Nat.le_of_lt hlt)).trans hy1
      have hfin : Ff_X0_readParts G B σ = (.inl (some (.int (nI i))), jwB σ B (7, (jPG σ B i).2)) := by unfold Ff_X0_readParts; rw [hnB, e3, e2]
      rw [hfin]
      have h77 : ((nI 7 : Int32) = 7) = True := eq_true rfl
      rw [jq_iload1 (M := M_X0_readParts G) 13 dX0_readParts_12 rfl]
      simp only [jq_aload0 (M := M_X0_readParts G) 1 dX0_readParts_0 rfl, jq_iconst (M := M_X0_readParts G) 0 2 dX0_readParts_1 (by decide) rfl, jq_putI (M := M_X0_readParts G) 0 5 5 dX0_readParts_2 rfl rfl rfl, jq_aload0 (M := M_X0_readParts G) 6 dX0_readParts_5 rfl, jq_iconst (M := M_X0_readParts G) 0 7 dX0_readParts_6 (by decide) rfl, jq_putI (M := M_X0_readParts G) 0 6 10 dX0_readParts_7 rfl rfl rfl, jq_iconst (M := M_X0_readParts G) 0 11 dX0_readParts_10 (by decide) rfl, jq_istore1 (M := M_X0_readParts G) 12 dX0_readParts_11 rfl, jq_aload0 (M := M_X0_readParts G) 14 dX0_readParts_13 rfl, jq_getI (M := M_X0_readParts G) 0 1 17 dX0_readParts_14 rfl rfl rfl, jq_icmp_ge (M := M_X0_readParts G) 64 20 dX0_readParts_17 (by decide) rfl, jq_aload0 (M := M_X0_readParts G) 21 dX0_readParts_20 rfl, jq_aload0 (M := M_X0_readParts G) 22 dX0_readParts_21 rfl, jq_aload0 (M := M_X0_readParts G) 23 dX0_readParts_22 rfl, jq_getR (M := M_X0_readParts G) 0 0 26 dX0_readParts_23 rfl rfl rfl, jq_iload1 (M := M_X0_readParts G) 27 dX0_readParts_26 rfl, jq_iald (M := M_X0_readParts G) 28 dX0_readParts_27 rfl, jq_virt1 (M := M_X0_readParts G) I_X0_placeBehind 0 dX0_readParts_28 rfl rfl rfl rfl, jq_putI (M := M_X0_readParts G) 0 6 34 dX0_readParts_31 rfl rfl rfl, jq_aload0 (M := M_X0_readParts G) 35 dX0_readParts_34 rfl, jq_getI (M := M_X0_readParts G) 0 6 38 dX0_readParts_35 rfl rfl rfl, jq_bipush (M := M_X0_readParts G) 7 40 dX0_readParts_38 (by decide) rfl, jq_icmp_ne (M := M_X0_readParts G) 45 43 dX0_readParts_40 (by decide) rfl, jq_iload1 (M := M_X0_readParts G) 44 dX0_readParts_43 rfl, jq_iret (M := M_X0_readParts G) .int dX0_readParts_44 rfl, jq_aload0 (M := M_X0_readParts G) 46 dX0_readParts_45 rfl, jq_aload0 (M := M_X0_readParts G) 47 dX0_readParts_46 rfl, jq_getR (M := M_X0_readParts G) 0 0 50 dX0_readParts_47 rfl rfl rfl, jq_iload1 (M := M_X0_readParts G) 51 dX0_readParts_50 rfl, jq_iald (M := M_X0_readParts G) 52 dX0_readParts_51 rfl, jq_bipush (M := M_X0_readParts G) 48 54 dX0_readParts_52 (by decide) rfl, jq_isub (M := M_X0_readParts G) 55 dX0_readParts_54 rfl, jq_virt1 (M := M_X0_readParts G) I_X0_noteCode 0 dX0_readParts_55 rfl rfl rfl rfl, jq_iinc1 (M := M_X0_readParts G) 1 61 dX0_readParts_58 (by decide) rfl, jq_goto (M := M_X0_readParts G) 12 dX0_readParts_61 (by decide), jq_aload0 (M := M_X0_readParts G) 65 dX0_readParts_64 rfl, jq_getI (M := M_X0_readParts G) 0 1 68 dX0_readParts_65 rfl rfl rfl, jq_iret (M := M_X0_readParts G) .int dX0_readParts_68 rfl, eq_self, jref_10, jref_11, jref_12, jk_v, jk_n, jcat_nil, jcat_i, jcat_r, jcat_l, jcat_d, jc2_i, jc2_r, jc2_n, jc1_i, jc1_r, jrf_some, jwtq_wI, jwtq_wh, jR_wI, jI_wh, jR_wh, List.cons.injEq, Value.int.injEq, Value.ref.injEq, Value.long.injEq, Value.double.injEq, true_and, and_true, and_self, Nat.reduceAdd, Nat.reduceLeDiff, if_true, if_false, ite_true, ite_false, jc1q_i, jc1q_r, jc1q_l, jwtq_wR, jwtq_wY, jI_wI, Nat.reduceEqDiff, and_false, false_and, not_false_eq_true, not_true_eq_false, t0, t1, t2, t3, t4, a1, k1, a2, k2, a3, k3, a4, k4, hn, jwB_2, jwB_wt, jwB_1, jwB_c, jwB_6, jnr_i, hc, hv, hcl, PX_X0_placeBehind, FX_X0_placeBehind, Pp_X0_placeBehind, Ff_X0_placeBehind, hv7, hc7, hw, jwB_p, h77]
    · have e1 : jPG σ B (i + 1) = jpn (jpb (jPG σ B i).1 (σ.1 (B + 1) i), (jPG σ B i).2) (σ.1 (B + 1) i - 48) := by rw [jPG_s]; unfold jpst; rw [if_neg hy7, if_neg hw]
      have e7 : ¬ (jPG σ B (i + 1)).1 = 7 := by rw [e1, jpn_p]; exact hw
      have ih := ih ⟨(jct_y (p := fun k => ¬ (jPG σ B (k + 1)).1 = 7) e7).trans (by rw [hy1]), e7⟩
      rw [e1, ← nI_1] at ih
      have hex : ∀ s : jPS, s.1 < 8 → s.2.1 ≤ 20 → ∃ t, jwB σ B s = jwB (jwB σ B s) B t ∧ t.1 < 8 ∧ t.2.1 ≤ 20 := fun s h1 h2 => ⟨s, (jwB_wB σ B s s).symm, h1, h2⟩
      have hex1 := hex (jpb (jPG σ B i).1 (σ.1 (B + 1) i), (jPG σ B i).2) (by dsimp only; omega) h20
      have hrB := jrB_wB (σ := σ) (B := B) (s := (jpb (jPG σ B i).1 (σ.1 (B + 1) i), (jPG σ B i).2)) (by dsimp only; omega) h20
      have hbf : ∀ s, jBuf G (jwB σ B s) B := fun s => jBuf_wB hp0
      rw [jq_iload1 (M := M_X0_readParts G) 13 dX0_readParts_12 rfl]
      simp only [jq_aload0 (M := M_X0_readParts G) 1 dX0_readParts_0 rfl, jq_iconst (M := M_X0_readParts G) 0 2 dX0_readParts_1 (by decide) rfl, jq_putI (M := M_X0_readParts G) 0 5 5 dX0_readParts_2 rfl rfl rfl, jq_aload0 (M := M_X0_readParts G) 6 dX0_readParts_5 rfl, jq_iconst (M := M_X0_readParts G) 0 7 dX0_readParts_6 (by decide) rfl, jq_putI (M := M_X0_readParts G) 0 6 10 dX0_readParts_7 rfl rfl rfl, jq_iconst (M := M_X0_readParts G) 0 11 dX0_readParts_10 (by decide) rfl, jq_istore1 (M := M_X0_readParts G) 12 dX0_readParts_11 rfl, jq_aload0 (M := M_X0_readParts G) 14 dX0_readParts_13 rfl, jq_getI (M := M_X0_readParts G) 0 1 17 dX0_readParts_14 rfl rfl rfl, jq_icmp_ge (M := M_X0_readParts G) 64 20 dX0_readParts_17 (by decide) rfl, jq_aload0 (M := M_X0_readParts G) 21 dX0_readParts_20 rfl, jq_aload0 (M := M_X0_readParts G) 22 dX0_readParts_21 rfl, jq_aload0 (M := M_X0_readParts G) 23 dX0_readParts_22 rfl, jq_getR (M := M_X0_readParts G) 0 0 26 dX0_readParts_23 rfl rfl rfl, jq_iload1 (M := M_X0_readParts G) 27 dX0_readParts_26 rfl, jq_iald (M := M_X0_readParts G) 28 dX0_readParts_27 rfl, jq_virt1 (M := M_X0_readParts G) I_X0_placeBehind 0 dX0_readParts_28 rfl rfl rfl rfl, jq_putI (M := M_X0_readParts G) 0 6 34 dX0_readParts_31 rfl rfl rfl, jq_aload0 (M := M_X0_readParts G) 35 dX0_readParts_34 rfl, jq_getI (M := M_X0_readParts G) 0 6 38 dX0_readParts_35 rfl rfl rfl, jq_bipush (M := M_X0_readParts G) 7 40 dX0_readParts_38 (by decide) rfl, jq_icmp_ne (M := M_X0_readParts G) 45 43 dX0_readParts_40 (by decide) rfl, jq_iload1 (M := M_X0_readParts G) 44 dX0_readParts_43 rfl, jq_iret (M := M_X0_readParts G) .int dX0_readParts_44 rfl, jq_aload0 (M := M_X0_readParts G) 46 dX0_readParts_45 rfl, jq_aload0 (M := M_X0_readParts G) 47 dX0_readParts_46 rfl, jq_getR (M := M_X0_readParts G) 0 0 50 dX0_readParts_47 rfl rfl rfl, jq_iload1 (M := M_X0_readParts G) 51 dX0_readParts_50 rfl, jq_iald (M := M_X0_readParts G) 52 dX0_readParts_51 rfl, jq_bipush (M := M_X0_readParts G) 48 54 dX0_readParts_52 (by decide) rfl, jq_isub (M := M_X0_readParts G) 55 dX0_readParts_54 rfl, jq_virt1 (M := M_X0_readParts G) I_X0_noteCode 0 dX0_readParts_55 rfl rfl rfl rfl, jq_iinc1 (M := M_X0_readParts G) 1 61 dX0_readParts_58 (by decide) rfl, jq_goto (M := M_X0_readParts G) 12 dX0_readParts_61 (by decide), jq_aload0 (M := M_X0_readParts G) 65 dX0_readParts_64 rfl, jq_getI (M := M_X0_readParts G) 0 1 68 dX0_readParts_65 rfl rfl rfl, jq_iret (M := M_X0_readParts G) .int dX0_readParts_68 rfl, eq_self, jref_10, jref_11, jref_12, jk_v, jk_n, jcat_nil, jcat_i, jcat_r, jcat_l, jcat_d, jc2_i, jc2_r, jc2_n, jc1_i, jc1_r, jrf_some, jwtq_wI, jwtq_wh, jR_wI, jI_wh, jR_wh, List.cons.injEq, Value.int.injEq, Value.ref.injEq, Value.long.injEq, Value.double.injEq, true_and, and_true, and_self, Nat.reduceAdd, Nat.reduceLeDiff, if_true, if_false, ite_true, ite_false, jc1q_i, jc1q_r, jc1q_l, jwtq_wR, jwtq_wY, jI_wI, Nat.reduceEqDiff, and_false, false_and, not_false_eq_true, not_true_eq_false, t0, t1, t2, t3, t4, a1, k1, a2, k2, a3, k3, a4, k4, hn, jwB_2, jwB_wt, jwB_1, jwB_c, jwB_6, jnr_i, hc, hv, hcl, PX_X0_placeBehind, FX_X0_placeBehind, Pp_X0_placeBehind, Ff_X0_placeBehind, PX_X0_noteCode, FX_X0_noteCode, Pp_X0_noteCode, Ff_X0_noteCode, hv7, hc7, hq7, hw, jwB_p, hbf, hex1, hrB, jwB_wB]
      exact ⟨⟨_, rfl, by dsimp only; omega, h20⟩, ih⟩
theorem met_X0_readParts {l : Launch} (hl : l.stackTraces = false) (D : va_G) (cy : Nat → ClassId) (G : jgG) : jMet l D cy G I_X0_readParts (S_X0_readParts G) :=
  jr_met hl (M_X0_readParts G) I_X0_readParts (S_X0_readParts G) RX0 rfl (by decide) rfl rfl rfl rfl (fun h => (by cases h)) jmAI jmAL (fun R h1 h2 => List.forall_mem_cons.mpr ⟨jpokF (r := (RX0, TX0, 7)) rfl jcls0 (by decide) (by decide) jm_220 (fun h => (by cases h)), List.forall_mem_cons.mpr ⟨jpokF (r := (RX0, TX0, 7)) rfl jcls0 (by decide) (by decide) jm_222 (fun h => (by cases h)), List.forall_mem_cons.mpr ⟨jpokF (r := (RX0, TX0, 7)) rfl jcls0 (by decide) (by decide) jm_230 (fun h => (by cases h)), List.forall_mem_cons.mpr ⟨jpokF (r := (RX0, TX0, 7)) rfl jcls0 (by decide) (by decide) jm_232 (fun h => (by cases h)), List.forall_mem_cons.mpr ⟨⟨⟨jm_326, jm_55, jd_X0_placeBehind, ⟨by rw [h1]; exact Nat.le_of_ble_eq_true rfl, by rw [h2]; exact Nat.le_of_ble_eq_true rfl⟩, Or.inl ⟨rfl, jm_323, jm_325, jm_0, rfl, Nat.le_of_ble_eq_true rfl, _, rfl, rfl⟩⟩, met_X0_placeBehind hl D cy G⟩, List.forall_mem_cons.mpr ⟨⟨⟨jm_333, jm_55, jd_X0_noteCode, ⟨by rw [h1]; exact Nat.le_of_ble_eq_true rfl, by rw [h2]; exact Nat.le_of_ble_eq_true rfl⟩, Or.inl ⟨rfl, jm_330, jm_332, jm_1, rfl, Nat.le_of_ble_eq_true rfl, _, rfl, rfl⟩⟩, met_X0_noteCode hl D cy G⟩, fun _ h => nomatch h⟩⟩⟩⟩⟩⟩) (fun h => absurd rfl h) (fun _ h => nomatch h) (bd_X0_readParts G)
def Pp_X0_isComplete (G : jgG) (B : Nat) (σ : jgS) : Prop := jBuf G σ B
def Ff_X0_isComplete (G : jgG) (B : Nat) (σ : jgS) : jgR := (.inl (some (.int (jb (jct (fun k => ¬ (jPG σ B (k + 1)).1 = 7) (jBn σ B) = jBn σ B ∧ ((jPG σ B (jBn σ B)).1 = 2 ∨ (jPG σ B (jBn σ B)).1 = 4 ∨ (jPG σ B (jBn σ B)).1 = 6))))), jwB σ B (jPG σ B (jBn σ B)))
def P_X0_isComplete (G : jgG) (As : List Value) (σ : jgS) : Prop := ∃ B : Nat, As = [.ref B] ∧ Pp_X0_isComplete G B σ
def F_X0_isComplete (G : jgG) (As : List Value) (σ : jgS) : jgR := Ff_X0_isComplete G (jaR As 0) σ
def S_X0_isComplete (G : jgG) : jgSpec := jsp (P_X0_isComplete G) (F_X0_isComplete G)
theorem PX_X0_isComplete {G : jgG} {B : Nat} {σ : jgS} : P_X0_isComplete G [.ref B] σ ↔ Pp_X0_isComplete G B σ := by unfold P_X0_isComplete; simp [and_assoc]
theorem FX_X0_isComplete {G : jgG} {B : Nat} {σ : jgS} : F_X0_isComplete G [.ref B] σ = Ff_X0_isComplete G B σ := rfl
def I_X0_isComplete : jgI := (0, 0, yX0_isComplete, cX0_isComplete, 1, (some .boolean), 0, 3, 62, [])
theorem jd_X0_isComplete : I_X0_isComplete.2.2.1.cls ≠ "java/lang/invoke/MethodHandle" ∧ I_X0_isComplete.2.2.1.cls ≠ "java/lang/invoke/VarHandle" ∧ (parseMethodDescriptor I_X0_isComplete.2.2.1.desc).map (fun d => d.parameters.length) = some I_X0_isComplete.2.2.2.2.2.2.1 := ⟨by decide +kernel, by decide +kernel, by decide +kernel⟩
def M_X0_isComplete (G : jgG) : jgM := (cX0_isComplete, [(24, jpF 0 1), (31, jpF 0 6), (42, jpC I_X0_readParts (S_X0_readParts G))], [], [], (some .boolean), false)
theorem bd_X0_isComplete (G : jgG) : ∀ (As : List Value) (σ : jgS) (r : jgR), S_X0_isComplete G As σ r → jhs σ ≤ jhs r.2 ∧ jsl σ ≤ jsl r.2 ∧ (jent As).length ≤ I_X0_isComplete.2.2.2.2.1 ∧ Jr G (M_X0_isComplete G) 0 (jentry As I_X0_isComplete.2.2.2.2.1) [] σ (fun r' => r' = r) := by
  rintro As σ r ⟨⟨B, rfl, hp⟩, rfl⟩
  rw [FX_X0_isComplete]
  refine ⟨(by first | exact Nat.le_refl _ | (show _ ≤ _; simp only [F_X0_isComplete, Ff_X0_isComplete]; (repeat' split) <;> first | exact Nat.le_refl _ | exact Nat.le_succ _ | exact Nat.le_add_right _ _)), (by first | exact Nat.le_refl _ | (show _ ≤ _; simp only [F_X0_isComplete, Ff_X0_isComplete]; (repeat' split) <;> first | exact Nat.le_refl _ | exact Nat.le_succ _ | exact Nat.le_add_right _ _)), by simp [jent, Value.category, I_X0_isComplete], ?_⟩
  show Jr G (M_X0_isComplete G) 0 [some (.ref B)] [] σ (fun r' => r' = Ff_X0_isComplete G B σ)
  have hp0 : jBuf G σ B := hp
  obtain ⟨t0, ⟨t1, t2, t3, t4⟩, ⟨⟨a1, k1⟩, ⟨a2, k2⟩, ⟨a3, k3⟩, ⟨a4, k4⟩⟩, hlen⟩ := hp
  obtain ⟨n, hn61, hn⟩ := vp_in_of hlen (by decide)
  have hnB : jBn σ B = n := by unfold jBn; rw [hn]; exact nI_clamp (by omega)
  have hle := jct_le (fun k => ¬ (jPG σ B (k + 1)).1 = 7) n
  obtain ⟨h8, h20⟩ := jPG_le σ B n
  have q1 : nI (jct (fun k => ¬ (jPG σ B (k + 1)).1 = 7) (n)) = nI n ↔ jct (fun k => ¬ (jPG σ B (k + 1)).1 = 7) (n) = n := nI_eq (by omega) (by omega)
  have q2 : nI (jPG σ B n).1 = 2 ↔ (jPG σ B n).1 = 2 := nI_eq (b := 2) (by omega) (by decide)
  have q4 : nI (jPG σ B n).1 = 4 ↔ (jPG σ B n).1 = 4 := nI_eq (b := 4) (by omega) (by decide)
  have q6 : nI (jPG σ B n).1 = 6 ↔ (jPG σ B n).1 = 6 := nI_eq (b := 6) (by omega) (by decide)
  simp only [jq_aload0 (M := M_X0_isComplete G) 1 dX0_isComplete_0 rfl, jq_virt0 (M := M_X0_isComplete G) I_X0_readParts 0 dX0_isComplete_1 rfl rfl rfl rfl, jq_aload0 (M := M_X0_isComplete G) 5 dX0_isComplete_4 rfl, jq_getI (M := M_X0_isComplete G) 0 1 8 dX0_isComplete_5 rfl rfl rfl, jq_icmp_ne (M := M_X0_isComplete G) 40 11 dX0_isComplete_8 (by decide) rfl, jq_aload0 (M := M_X0_isComplete G) 12 dX0_isComplete_11 rfl, jq_getI (M := M_X0_isComplete G) 0 6 15 dX0_isComplete_12 rfl rfl rfl, jq_iconst (M := M_X0_isComplete G) 2 16 dX0_isComplete_15 (by decide) rfl, jq_icmp_eq (M := M_X0_isComplete G) 36 19 dX0_isComplete_16 (by decide) rfl, jq_aload0 (M := M_X0_isComplete G) 20 dX0_isComplete_19 rfl, jq_getI (M := M_X0_isComplete G) 0 6 23 dX0_isComplete_20 rfl rfl rfl, jq_iconst (M := M_X0_isComplete G) 4 24 dX0_isComplete_23 (by decide) rfl, jq_icmp_eq (M := M_X0_isComplete G) 36 27 dX0_isComplete_24 (by decide) rfl, jq_aload0 (M := M_X0_isComplete G) 28 dX0_isComplete_27 rfl, jq_getI (M := M_X0_isComplete G) 0 6 31 dX0_isComplete_28 rfl rfl rfl, jq_bipush (M := M_X0_isComplete G) 6 33 dX0_isComplete_31 (by decide) rfl, jq_icmp_ne (M := M_X0_isComplete G) 40 36 dX0_isComplete_33 (by decide) rfl, jq_iconst (M := M_X0_isComplete G) 1 37 dX0_isComplete_36 (by decide) rfl, jq_goto (M := M_X0_isComplete G) 41 dX0_isComplete_37 (by decide), jq_iconst (M := M_X0_isComplete G) 0 41 dX0_isComplete_40 (by decide) rfl, jq_iret (M := M_X0_isComplete G) .boolean dX0_isComplete_41 rfl, eq_self, jref_10, jref_11, jref_12, jk_v, jk_n, jcat_nil, jcat_i, jcat_r, jcat_l, jcat_d, jc2_i, jc2_r, jc2_n, jc1_i, jc1_r, jrf_some, jwtq_wI, jwtq_wh, jR_wI, jI_wh, jR_wh, List.cons.injEq, Value.int.injEq, Value.ref.injEq, Value.long.injEq, Value.double.injEq, true_and, and_true, and_self, Nat.reduceAdd, Nat.reduceLeDiff, if_true, if_false, ite_true, ite_false, jc1q_i, jc1q_r, jc1q_l, jwtq_wR, jwtq_wY, jI_wI, Nat.reduceEqDiff, and_false, false_and, not_false_eq_true, not_true_eq_false, t0, t1, t2, t3, t4, a1, k1, a2, k2, a3, k3, a4, k4, hn, hp0, PX_X0_readParts, FX_X0_readParts, Pp_X0_readParts, Ff_X0_readParts, jwB_2, jwB_wt, jwB_1, jwB_6, hnB, q1, q2, q4, q6, jnr_b0, jnr_b1, Ff_X0_isComplete, jb]
  by_cases c1 : jct (fun k => ¬ (jPG σ B (k + 1)).1 = 7) (n) = n <;> by_cases c2 : (jPG σ B n).1 = 2 <;> by_cases c4 : (jPG σ B n).1 = 4 <;> by_cases c6 : (jPG σ B n).1 = 6 <;> simp only [c1, c2, c4, c6, ji_le, and_self, and_true, and_false, true_and, false_and, or_self, or_true, true_or, or_false, false_or, if_true, if_false, not_true_eq_false, not_false_eq_true, Nat.reduceEqDiff]
theorem met_X0_isComplete {l : Launch} (hl : l.stackTraces = false) (D : va_G) (cy : Nat → ClassId) (G : jgG) : jMet l D cy G I_X0_isComplete (S_X0_isComplete G) :=
  jr_met hl (M_X0_isComplete G) I_X0_isComplete (S_X0_isComplete G) RX0 rfl (by decide) rfl rfl rfl rfl (fun h => (by cases h)) jmAI jmAL (fun R h1 h2 => List.forall_mem_cons.mpr ⟨jpokF (r := (RX0, TX0, 7)) rfl jcls0 (by decide) (by decide) jm_222 (fun h => (by cases h)), List.forall_mem_cons.mpr ⟨jpokF (r := (RX0, TX0, 7)) rfl jcls0 (by decide) (by decide) jm_232 (fun h => (by cases h)), List.forall_mem_cons.mpr ⟨⟨⟨jm_322, jm_55, jd_X0_readParts, ⟨by rw [h1]; exact Nat.le_of_ble_eq_true rfl, by rw [h2]; exact Nat.le_of_ble_eq_true rfl⟩, Or.inl ⟨rfl, jm_767, jm_320, jm_321, rfl, Nat.le_of_ble_eq_true rfl, _, rfl, rfl⟩⟩, met_X0_readParts hl D cy G⟩, fun _ h => nomatch h⟩⟩⟩) (fun h => absurd rfl h) (fun _ h => nomatch h) (bd_X0_isComplete G)
def jBp (σ : jgS) (B : Nat) : Nat := (σ.1 B 5).toNatClampNeg
def Pp_X0_rowsNamed (G : jgG) (B : Nat) (σ : jgS) : Prop := jBuf G σ B ∧ vp_in (σ.1 B 5) 21
def Ff_X0_rowsNamed (G : jgG) (B : Nat) (σ : jgS) : jgR := (.inl (some (.int (jfd (fun i s => s + σ.1 (B + 4) i) (jBp σ B) 0))), σ)
def P_X0_rowsNamed (G : jgG) (As : List Value) (σ : jgS) : Prop := ∃ B : Nat, As = [.ref B] ∧ Pp_X0_rowsNamed G B σ
def F_X0_rowsNamed (G : jgG) (As : List Value) (σ : jgS) : jgR := Ff_X0_rowsNamed G (jaR As 0) σ
def S_X0_rowsNamed (G : jgG) : jgSpec := jsp (P_X0_rowsNamed G) (F_X0_rowsNamed G)
theorem PX_X0_rowsNamed {G : jgG} {B : Nat} {σ : jgS} : P_X0_rowsNamed G [.ref B] σ ↔ Pp_X0_rowsNamed G B σ := by unfold P_X0_rowsNamed; simp [and_assoc]
theorem FX_X0_rowsNamed {G : jgG} {B : Nat} {σ : jgS} : F_X0_rowsNamed G [.ref B] σ = Ff_X0_rowsNamed G B σ := rfl
def I_X0_rowsNamed : jgI := (0, 0, yX0_rowsNamed, cX0_rowsNamed, 3, (some .int), 0, 0, 0, [])
theorem jd_X0_rowsNamed : I_X0_rowsNamed.2.2.1.cls ≠ "java/lang/invoke/MethodHandle" ∧ I_X0_rowsNamed.2.2.1.cls ≠ "java/lang/invoke/VarHandle" ∧ (parseMethodDescriptor I_X0_rowsNamed.2.2.1.desc).map (fun d => d.parameters.length) = some I_X0_rowsNamed.2.2.2.2.2.2.1 := ⟨by decide +kernel, by decide +kernel, by decide +kernel⟩
def M_X0_rowsNamed (G : jgG) : jgM := (cX0_rowsNamed, [(21, jpF 0 4), (28, jpF 0 5)], [], [], (some .int), false)
theorem bd_X0_rowsNamed (G : jgG) : ∀ (As : List Value) (σ : jgS) (r : jgR), S_X0_rowsNamed G As σ r → jhs σ ≤ jhs r.2 ∧ jsl σ ≤ jsl r.2 ∧ (jent As).length ≤ I_X0_rowsNamed.2.2.2.2.1 ∧ Jr G (M_X0_rowsNamed G) 0 (jentry As I_X0_rowsNamed.2.2.2.2.1) [] σ (fun r' => r' = r) := by
  rintro As σ r ⟨⟨B, rfl, hp⟩, rfl⟩
  rw [FX_X0_rowsNamed]
  refine ⟨(by first | exact Nat.le_refl _ | (show _ ≤ _; simp only [F_X0_rowsNamed, Ff_X0_rowsNamed]; (repeat' split) <;> first | exact Nat.le_refl _ | exact Nat.le_succ _ | exact Nat.le_add_right _ _)), (by first | exact Nat.le_refl _ | (show _ ≤ _; simp only [F_X0_rowsNamed, Ff_X0_rowsNamed]; (repeat' split) <;> first | exact Nat.le_refl _ | exact Nat.le_succ _ | exact Nat.le_add_right _ _)), by simp [jent, Value.category, I_X0_rowsNamed], ?_⟩
  show Jr G (M_X0_rowsNamed G) 0 [some (.ref B), none, none] [] σ (fun r' => r' = Ff_X0_rowsNamed G B σ)
  obtain ⟨hp, hv⟩ := hp
  obtain ⟨t0, ⟨t1, t2, t3, t4⟩, ⟨⟨a1, k1⟩, ⟨a2, k2⟩, ⟨a3, k3⟩, ⟨a4, k4⟩⟩, hlen⟩ := hp
  obtain ⟨n, hn21, hn⟩ := vp_in_of hv (by decide)
  have hnB : jBp σ B = n := by unfold jBp; rw [hn]; exact nI_clamp (by omega)
  simp only [jq_iconst (M := M_X0_rowsNamed G) 0 1 dX0_rowsNamed_0 (by decide) rfl, jq_istore1 (M := M_X0_rowsNamed G) 2 dX0_rowsNamed_1 rfl, jq_iconst (M := M_X0_rowsNamed G) 0 3 dX0_rowsNamed_2 (by decide) rfl, jq_istore2 (M := M_X0_rowsNamed G) 4 dX0_rowsNamed_3 rfl, eq_self, jref_10, jref_11, jref_12, jk_v, jk_n, jcat_nil, jcat_i, jcat_r, jcat_l, jcat_d, jc2_i, jc2_r, jc2_n, jc1_i, jc1_r, jrf_some, jwtq_wI, jwtq_wh, jR_wI, jI_wh, jR_wh, List.cons.injEq, Value.int.injEq, Value.ref.injEq, Value.long.injEq, Value.double.injEq, true_and, and_true, and_self, Nat.reduceAdd, Nat.reduceLeDiff, if_true, if_false, ite_true, ite_false, jc1q_i, jc1q_r, jc1q_l, jwtq_wR, jwtq_wY, jI_wI, Nat.reduceEqDiff, and_false, false_and, not_false_eq_true, not_true_eq_false, t0, t1, t2, t3, t4, a1, k1, a2, k2, a3, k3, a4, k4, hn, jnr_i]
  refine jloop (P := fun i => Jr G (M_X0_rowsNamed G) 4 [some (.ref B), some (.int (jfd (fun i s => s + σ.1 (B + 4) i) i 0)), some (.int (nI i))] [] (σ) (fun r' => r' = Ff_X0_rowsNamed G B σ)) (n := n) ?_ (fun i hlt ih => ?_)
  · show Jr G (M_X0_rowsNamed G) 4 _ _ _ _
    rw [jq_iload2 (M := M_X0_rowsNamed G) 5 dX0_rowsNamed_4 rfl]
    simp only [jq_iconst (M := M_X0_rowsNamed G) 0 1 dX0_rowsNamed_0 (by decide) rfl, jq_istore1 (M := M_X0_rowsNamed G) 2 dX0_rowsNamed_1 rfl, jq_iconst (M := M_X0_rowsNamed G) 0 3 dX0_rowsNamed_2 (by decide) rfl, jq_istore2 (M := M_X0_rowsNamed G) 4 dX0_rowsNamed_3 rfl, jq_aload0 (M := M_X0_rowsNamed G) 6 dX0_rowsNamed_5 rfl, jq_getI (M := M_X0_rowsNamed G) 0 5 9 dX0_rowsNamed_6 rfl rfl rfl, jq_icmp_ge (M := M_X0_rowsNamed G) 27 12 dX0_rowsNamed_9 (by decide) rfl, jq_iload1 (M := M_X0_rowsNamed G) 13 dX0_rowsNamed_12 rfl, jq_aload0 (M := M_X0_rowsNamed G) 14 dX0_rowsNamed_13 rfl, jq_getR (M := M_X0_rowsNamed G) 0 4 17 dX0_rowsNamed_14 rfl rfl rfl, jq_iload2 (M := M_X0_rowsNamed G) 18 dX0_rowsNamed_17 rfl, jq_iald (M := M_X0_rowsNamed G) 19 dX0_rowsNamed_18 rfl, jq_iadd (M := M_X0_rowsNamed G) 20 dX0_rowsNamed_19 rfl, jq_istore1 (M := M_X0_rowsNamed G) 21 dX0_rowsNamed_20 rfl, jq_iinc2 (M := M_X0_rowsNamed G) 1 24 dX0_rowsNamed_21 (by decide) rfl, jq_goto (M := M_X0_rowsNamed G) 4 dX0_rowsNamed_24 (by decide), jq_iload1 (M := M_X0_rowsNamed G) 28 dX0_rowsNamed_27 rfl, jq_iret (M := M_X0_rowsNamed G) .int dX0_rowsNamed_28 rfl, eq_self, jref_10, jref_11, jref_12, jk_v, jk_n, jcat_nil, jcat_i, jcat_r, jcat_l, jcat_d, jc2_i, jc2_r, jc2_n, jc1_i, jc1_r, jrf_some, jwtq_wI, jwtq_wh, jR_wI, jI_wh, jR_wh, List.cons.injEq, Value.int.injEq, Value.ref.injEq, Value.long.injEq, Value.double.injEq, true_and, and_true, and_self, Nat.reduceAdd, Nat.reduceLeDiff, if_true, if_false, ite_true, ite_false, jc1q_i, jc1q_r, jc1q_l, jwtq_wR, jwtq_wY, jI_wI, Nat.reduceEqDiff, and_false, false_and, not_false_eq_true, not_true_eq_false, t0, t1, t2, t3, t4, a1, k1, a2, k2, a3, k3, a4, k4, hn, jnr_i, Int32.le_refl]
    unfold Ff_X0_rowsNamed
    rw [hnB]
  · show Jr G (M_X0_rowsNamed G) 4 _ _ _ _
    rw [jfd_s, ← nI_1] at ih
    have hc : ¬ nI n ≤ nI i := nI_ge hlt (by omega)
    have hv : vp_in (nI i) 20 := vp_in_nI (by omega) (by decide)
    have hcl : (nI i).toNatClampNeg = i := nI_clamp (by omega)
    rw [jq_iload2 (M := M_X0_rowsNamed G) 5 dX0_rowsNamed_4 rfl]
    simp only [jq_iconst (M := M_X0_rowsNamed G) 0 1 dX0_rowsNamed_0 (by decide) rfl, jq_istore1 (M := M_X0_rowsNamed G) 2 dX0_rowsNamed_1 rfl, jq_iconst (M := M_X0_rowsNamed G) 0 3 dX0_rowsNamed_2 (by decide) rfl, jq_istore2 (M := M_X0_rowsNamed G) 4 dX0_rowsNamed_3 rfl, jq_aload0 (M := M_X0_rowsNamed G) 6 dX0_rowsNamed_5 rfl, jq_getI (M := M_X0_rowsNamed G) 0 5 9 dX0_rowsNamed_6 rfl rfl rfl, jq_icmp_ge (M := M_X0_rowsNamed G) 27 12 dX0_rowsNamed_9 (by decide) rfl, jq_iload1 (M := M_X0_rowsNamed G) 13 dX0_rowsNamed_12 rfl, jq_aload0 (M := M_X0_rowsNamed G) 14 dX0_rowsNamed_13 rfl, jq_getR (M := M_X0_rowsNamed G) 0 4 17 dX0_rowsNamed_14 rfl rfl rfl, jq_iload2 (M := M_X0_rowsNamed G) 18 dX0_rowsNamed_17 rfl, jq_iald (M := M_X0_rowsNamed G) 19 dX0_rowsNamed_18 rfl, jq_iadd (M := M_X0_rowsNamed G) 20 dX0_rowsNamed_19 rfl, jq_istore1 (M := M_X0_rowsNamed G) 21 dX0_rowsNamed_20 rfl, jq_iinc2 (M := M_X0_rowsNamed G) 1 24 dX0_rowsNamed_21 (by decide) rfl, jq_goto (M := M_X0_rowsNamed G) 4 dX0_rowsNamed_24 (by decide), jq_iload1 (M := M_X0_rowsNamed G) 28 dX0_rowsNamed_27 rfl, jq_iret (M := M_X0_rowsNamed G) .int dX0_rowsNamed_28 rfl, eq_self, jref_10, jref_11, jref_12, jk_v, jk_n, jcat_nil, jcat_i, jcat_r, jcat_l, jcat_d, jc2_i, jc2_r, jc2_n, jc1_i, jc1_r, jrf_some, jwtq_wI, jwtq_wh, jR_wI, jI_wh, jR_wh, List.cons.injEq, Value.int.injEq, Value.ref.injEq, Value.long.injEq, Value.double.injEq, true_and, and_true, and_self, Nat.reduceAdd, Nat.reduceLeDiff, if_true, if_false, ite_true, ite_false, jc1q_i, jc1q_r, jc1q_l, jwtq_wR, jwtq_wY, jI_wI, Nat.reduceEqDiff, and_false, false_and, not_false_eq_true, not_true_eq_false, t0, t1, t2, t3, t4, a1, k1, a2, k2, a3, k3, a4, k4, hn, jnr_i, hc, hv, hcl]
    exact ih
theorem met_X0_rowsNamed {l : Launch} (hl : l.stackTraces = false) (D : va_G) (cy : Nat → ClassId) (G : jgG) : jMet l D cy G I_X0_rowsNamed (S_X0_rowsNamed G) :=
  jr_met hl (M_X0_rowsNamed G) I_X0_rowsNamed (S_X0_rowsNamed G) RX0 rfl (by decide) rfl rfl rfl rfl (fun h => (by cases h)) jmAI jmAL (fun R h1 h2 => List.forall_mem_cons.mpr ⟨jpokF (r := (RX0, TX0, 7)) rfl jcls0 (by decide) (by decide) jm_228 (fun h => (by cases h)), List.forall_mem_cons.mpr ⟨jpokF (r := (RX0, TX0, 7)) rfl jcls0 (by decide) (by decide) jm_230 (fun h => (by cases h)), fun _ h => nomatch h⟩⟩) (fun h => absurd rfl h) (fun _ h => nomatch h) (bd_X0_rowsNamed G)
