/-! the long rows are of no account to the reference -/
def jyY (σ : jgS) (Y : Nat → Nat → Int64) : jgS := (σ.1, σ.2.1, Y, σ.2.2.2)
def kyl (r : jgR) (Y : Nat → Nat → Int64) : jgR := (r.1, jyY r.2 Y)
theorem jy_1 (σ : jgS) (Y : Nat → Nat → Int64) : (jyY σ Y).1 = σ.1 := rfl
theorem jy_I (σ : jgS) (Y : Nat → Nat → Int64) (a k : Nat) (v : Int32) : jwI (jyY σ Y) a k v = jyY (jwI σ a k v) Y := rfl
theorem jy_S (σ : jgS) (Y : Nat → Nat → Int64) (m : Nat) (S : Nat → Int32) : jwS (jyY σ Y) m S = jyY (jwS σ m S) Y := rfl
theorem jy_c (σ : jgS) (Y : Nat → Nat → Int64) (a f b t i : Nat) : jcc (jyY σ Y) a f b t i = jyY (jcc σ a f b t i) Y := rfl
theorem jy_h (σ : jgS) (Y : Nat → Nat → Int64) (m i : Nat) : msh (jyY σ Y) m i = jyY (msh σ m i) Y := rfl
theorem jy_O (σ : jgS) (Y : Nat → Nat → Int64) (m : Nat) (f : Nat → Int32) (c : Int32) : jwO (jyY σ Y) m f c = jyY (jwO σ m f c) Y := rfl
theorem jy_T (σ : jgS) (Y : Nat → Nat → Int64) (m : Nat) (S : Nat → Int32) (t s : Int32) : jwT (jyY σ Y) m S t s = jyY (jwT σ m S t s) Y := rfl
theorem jy_z (σ : jgS) (Y : Nat → Nat → Int64) (m : Nat) : mz (jyY σ Y) m = mz σ m := rfl
theorem jy_z1 (σ : jgS) (Y : Nat → Nat → Int64) (m : Nat) : mz1 (jyY σ Y) m = mz1 σ m := rfl
theorem jy_L (σ : jgS) (Y : Nat → Nat → Int64) (m : Nat) : mLn (jyY σ Y) m = mLn σ m := rfl
theorem jy_K (σ : jgS) (Y : Nat → Nat → Int64) (m : Nat) : mKeep (jyY σ Y) m = jyY (mKeep σ m) Y := by
  unfold mKeep
  rw [jy_z, jy_z1, jy_h, jy_I, jy_c, jy_I]
theorem jy_k0 (σ : jgS) (Y : Nat → Nat → Int64) (m : Nat) : mTak0 (jyY σ Y) m = jyY (mTak0 σ m) Y := by
  unfold mTak0
  rw [jy_I, jy_I, jy_O, jy_1]
theorem jy_Tk (σ : jgS) (Y : Nat → Nat → Int64) (m r : Nat) (M : Int32) : mTk (jyY σ Y) m r M = jyY (mTk σ m r M) Y := by
  unfold mTk
  rw [jy_k0, jy_T, jy_1]
theorem jy_TI (σ : jgS) (Y : Nat → Nat → Int64) (m r : Nat) (M : Int32) : mTI (jyY σ Y) m r M = jyY (mTI σ m r M) Y := by
  unfold mTI
  rw [jy_c, jy_Tk, jy_c]
theorem jy_PI (σ : jgS) (Y : Nat → Nat → Int64) (m u : Nat) : mPI (jyY σ Y) m u = jyY (mPI σ m u) Y := by
  unfold mPI
  rw [jy_c, jy_1, jy_S, jy_c]
theorem jy_NX (σ : jgS) (Y : Nat → Nat → Int64) (m : Nat) : mNX (jyY σ Y) m = jyY (mNX σ m) Y := by
  unfold mNX
  rw [jy_O, jy_1]
theorem kyl_if {c : Prop} [Decidable c] {r r' : jgR} {Y : Nat → Nat → Int64} : kyl (if c then r else r') Y = if c then kyl r Y else kyl r' Y := by by_cases h : c <;> simp [h]
theorem kyl_m {a : Option Value ⊕ String} {τ : jgS} {Y : Nat → Nat → Int64} : kyl (a, τ) Y = (a, jyY τ Y) := rfl
theorem jyif {c : Prop} [Decidable c] {τ τ' : jgS} {Y : Nat → Nat → Int64} : jyY (if c then τ else τ') Y = if c then jyY τ Y else jyY τ' Y := by by_cases h : c <;> simp [h]
section KY
variable (G : jgG) (m : Nat) (σ : jgS) (Y : Nat → Nat → Int64)
theorem ky_put (a b : Int32) : Ff_X7_put G m a b (jyY σ Y) = kyl (Ff_X7_put G m a b σ) Y := by
  unfold Ff_X7_put
  simp only [kyl_if, kyl_m, jyif, jy_1, jy_I, jy_S, jy_c, jy_z, jy_L, jy_K, jy_Tk, jy_TI, jy_PI, jy_NX] <;> rfl
theorem ky_urge (a b : Int32) : Ff_X7_urge G m a b (jyY σ Y) = kyl (Ff_X7_urge G m a b σ) Y := by
  unfold Ff_X7_urge
  simp only [kyl_if, kyl_m, jyif, jy_1, jy_I, jy_S, jy_c, jy_z, jy_L, jy_K, jy_Tk, jy_TI, jy_PI, jy_NX] <;> rfl
theorem ky_revive (a : Int32) : Ff_X7_revive G m a (jyY σ Y) = kyl (Ff_X7_revive G m a σ) Y := by
  unfold Ff_X7_revive
  simp only [kyl_if, kyl_m, jyif, jy_1, jy_I, jy_S, jy_c, jy_z, jy_L, jy_K, jy_Tk, jy_TI, jy_PI, jy_NX] <;> rfl
theorem ky_set (a b : Int32) : Ff_X7_set G m a b (jyY σ Y) = kyl (Ff_X7_set G m a b σ) Y := by
  unfold Ff_X7_set
  simp only [kyl_if, kyl_m, jyif, jy_1, jy_I, jy_S, jy_c, jy_z, jy_L, jy_K, jy_Tk, jy_TI, jy_PI, jy_NX] <;> rfl
theorem ky_takes (a b : Int32) : Ff_X7_takes G m a b (jyY σ Y) = kyl (Ff_X7_takes G m a b σ) Y := by
  unfold Ff_X7_takes
  simp only [kyl_if, kyl_m, jyif, jy_1, jy_I, jy_S, jy_c, jy_z, jy_L, jy_K, jy_Tk, jy_TI, jy_PI, jy_NX] <;> rfl
theorem ky_take (a b : Int32) : Ff_X7_take G m a b (jyY σ Y) = kyl (Ff_X7_take G m a b σ) Y := by
  unfold Ff_X7_take
  simp only [kyl_if, kyl_m, jyif, jy_1, jy_I, jy_S, jy_c, jy_z, jy_L, jy_K, jy_Tk, jy_TI, jy_PI, jy_NX] <;> rfl
theorem ky_done (a b : Int32) : Ff_X7_done G m a b (jyY σ Y) = kyl (Ff_X7_done G m a b σ) Y := by
  unfold Ff_X7_done
  simp only [kyl_if, kyl_m, jyif, jy_1, jy_I, jy_S, jy_c, jy_z, jy_L, jy_K, jy_Tk, jy_TI, jy_PI, jy_NX] <;> rfl
theorem ky_giveBack (a b : Int32) : Ff_X7_giveBack G m a b (jyY σ Y) = kyl (Ff_X7_giveBack G m a b σ) Y := by
  unfold Ff_X7_giveBack
  simp only [kyl_if, kyl_m, jyif, jy_1, jy_I, jy_S, jy_c, jy_z, jy_L, jy_K, jy_Tk, jy_TI, jy_PI, jy_NX] <;> rfl
theorem ky_renew (a : Int32) : Ff_X7_renew G m a (jyY σ Y) = kyl (Ff_X7_renew G m a σ) Y := by
  unfold Ff_X7_renew
  simp only [kyl_if, kyl_m, jyif, jy_1, jy_I, jy_S, jy_c, jy_z, jy_L, jy_K, jy_Tk, jy_TI, jy_PI, jy_NX] <;> rfl
theorem ky_pass (a : Int32) : Ff_X7_pass G m a (jyY σ Y) = kyl (Ff_X7_pass G m a σ) Y := by
  unfold Ff_X7_pass
  simp only [kyl_if, kyl_m, jyif, jy_1, jy_I, jy_S, jy_c, jy_z, jy_L, jy_K, jy_Tk, jy_TI, jy_PI, jy_NX] <;> rfl
theorem ky_append (a : Int32) : Ff_X7_append G m a (jyY σ Y) = kyl (Ff_X7_append G m a σ) Y := by
  unfold Ff_X7_append
  simp only [kyl_if, kyl_m, jyif, jy_1, jy_I, jy_S, jy_c, jy_z, jy_L, jy_K, jy_Tk, jy_TI, jy_PI, jy_NX] <;> rfl
theorem ky_putAll : Ff_X7_putAll G m (jyY σ Y) = kyl (Ff_X7_putAll G m σ) Y := by
  unfold Ff_X7_putAll
  simp only [kyl_if, kyl_m, jyif, jy_1, jy_I, jy_S, jy_c, jy_z, jy_L, jy_K, jy_Tk, jy_TI, jy_PI, jy_NX] <;> rfl
theorem ky_undo : Ff_X7_undo G m (jyY σ Y) = kyl (Ff_X7_undo G m σ) Y := by
  unfold Ff_X7_undo
  simp only [kyl_if, kyl_m, jyif, jy_1, jy_I, jy_S, jy_c, jy_z, jy_L, jy_K, jy_Tk, jy_TI, jy_PI, jy_NX] <;> rfl
theorem ky_row (a b : Int32) : Ff_X7_row G m a b (jyY σ Y) = kyl (Ff_X7_row G m a b σ) Y := by
  unfold Ff_X7_row
  simp only [kyl_if, kyl_m, jyif, jy_1, jy_I, jy_S, jy_c, jy_z, jy_L, jy_K, jy_Tk, jy_TI, jy_PI, jy_NX] <;> rfl
theorem ky_reader (a b : Int32) : Ff_X7_reader G m a b (jyY σ Y) = kyl (Ff_X7_reader G m a b σ) Y := by
  unfold Ff_X7_reader
  simp only [kyl_if, kyl_m, jyif, jy_1, jy_I, jy_S, jy_c, jy_z, jy_L, jy_K, jy_Tk, jy_TI, jy_PI, jy_NX] <;> rfl
theorem ky_group (a b c : Int32) : Ff_X7_group G m a b c (jyY σ Y) = kyl (Ff_X7_group G m a b c σ) Y := by
  unfold Ff_X7_group
  simp only [kyl_if, kyl_m, jyif, jy_1, jy_I, jy_S, jy_c, jy_z, jy_L, jy_K, jy_Tk, jy_TI, jy_PI, jy_NX] <;> rfl
theorem ky_count (a : Int32) : Ff_X7_count G m a (jyY σ Y) = kyl (Ff_X7_count G m a σ) Y := by
  unfold Ff_X7_count
  simp only [kyl_if, kyl_m, jyif, jy_1, jy_I, jy_S, jy_c, jy_z, jy_L, jy_K, jy_Tk, jy_TI, jy_PI, jy_NX] <;> rfl
theorem ky_setting (a : Int32) : Ff_X7_setting G m a (jyY σ Y) = kyl (Ff_X7_setting G m a σ) Y := by
  unfold Ff_X7_setting
  simp only [kyl_if, kyl_m, jyif, jy_1, jy_I, jy_S, jy_c, jy_z, jy_L, jy_K, jy_Tk, jy_TI, jy_PI, jy_NX] <;> rfl
theorem ky_ifTaken (a b c : Int32) : Ff_X7_ifTaken G m a b c (jyY σ Y) = kyl (Ff_X7_ifTaken G m a b c σ) Y := by
  unfold Ff_X7_ifTaken
  simp only [kyl_if, kyl_m, jyif, jy_1, jy_I, jy_S, jy_c, jy_z, jy_L, jy_K, jy_Tk, jy_TI, jy_PI, jy_NX] <;> rfl
theorem ky_ifPassed (a b : Int32) : Ff_X7_ifPassed G m a b (jyY σ Y) = kyl (Ff_X7_ifPassed G m a b σ) Y := by
  unfold Ff_X7_ifPassed
  simp only [kyl_if, kyl_m, jyif, jy_1, jy_I, jy_S, jy_c, jy_z, jy_L, jy_K, jy_Tk, jy_TI, jy_PI, jy_NX] <;> rfl
end KY
