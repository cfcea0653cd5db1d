def scrL : List Nat := [23, 24, 27, 28, 31, 32, 35, 36, 37, 49, 50, 53, 54, 57, 58, 61, 62, 63, 390]
def lawL : List Nat := [21, 22, 25, 26, 29, 30, 33, 34, 47, 48, 51, 52, 55, 56, 59, 60]
def S0 (c : Nat) : Bool := scrL.contains c
def SL (c : Nat) : Bool := S0 c || lawL.contains c
def S1 (c : Nat) : Bool := S0 c || (decide (64 ≤ c) && decide (c < 401))
def S2 (c : Nat) : Bool := decide (3 ≤ c) && decide (c < 401)
def S3 (c : Nat) : Bool := decide (c < 401)
theorem S0_rng {c : Nat} (h : S0 c = true) : 3 ≤ c ∧ c < 401 := by
  have e : ∀ x ∈ scrL, 3 ≤ x ∧ x < 401 := by decide
  exact e c (by simpa [S0] using h)
theorem SL_rng {c : Nat} (h : SL c = true) : 3 ≤ c ∧ c < 401 := by
  have e : ∀ x ∈ lawL, 3 ≤ x ∧ x < 401 := by decide
  rcases (Bool.or_eq_true _ _).mp h with h | h
  · exact S0_rng h
  · exact e c (by simpa using h)
theorem S1_rng {c : Nat} (h : S1 c = true) : 3 ≤ c ∧ c < 401 := by
  rcases (Bool.or_eq_true _ _).mp h with h | h
  · exact S0_rng h
  · simp only [Bool.and_eq_true, decide_eq_true_eq] at h; omega
theorem S0_S1 : ∀ c, S0 c = true → S1 c = true := fun c h => by unfold S1; rw [h]; rfl
theorem S0_SL : ∀ c, S0 c = true → SL c = true := fun c h => by unfold SL; rw [h]; rfl
theorem S2_of {c : Nat} (h : 3 ≤ c ∧ c < 401) : S2 c = true := by simp [S2, h.1, h.2]
theorem S3_of {c : Nat} (h : 3 ≤ c ∧ c < 401) : S3 c = true := by simp [S3, h.2]
theorem S0_S2 : ∀ c, S0 c = true → S2 c = true := fun c h => S2_of (S0_rng h)
theorem SL_S2 : ∀ c, SL c = true → S2 c = true := fun c h => S2_of (SL_rng h)
theorem S1_S2 : ∀ c, S1 c = true → S2 c = true := fun c h => S2_of (S1_rng h)
theorem S0_S3 : ∀ c, S0 c = true → S3 c = true := fun c h => S3_of (S0_rng h)
theorem SL_S3 : ∀ c, SL c = true → S3 c = true := fun c h => S3_of (SL_rng h)
theorem S1_S3 : ∀ c, S1 c = true → S3 c = true := fun c h => S3_of (S1_rng h)
theorem S2_S3 : ∀ c, S2 c = true → S3 c = true := fun c h => by
  simp only [S2, Bool.and_eq_true, decide_eq_true_eq] at h
  simp [S3, h.2]
theorem one_self (a : Nat) : one a a = true := by simp [one]
theorem S0_St_0f {x : Nat} (h : isSt x) : S0 (x) = false := (by decide +kernel : ∀ x ∈ lSt, S0 (x) = false) x h
theorem SL_St_0f {x : Nat} (h : isSt x) : SL (x) = false := (by decide +kernel : ∀ x ∈ lSt, SL (x) = false) x h
theorem S1_St_0 {x : Nat} (h : isSt x) : S1 (x) = true := (by decide +kernel : ∀ x ∈ lSt, S1 (x) = true) x h
theorem S2_St_0 {x : Nat} (h : isSt x) : S2 (x) = true := (by decide +kernel : ∀ x ∈ lSt, S2 (x) = true) x h
theorem S3_St_0 {x : Nat} (h : isSt x) : S3 (x) = true := (by decide +kernel : ∀ x ∈ lSt, S3 (x) = true) x h
theorem S0_St_1f {x : Nat} (h : isSt x) : S0 (x + 1) = false := (by decide +kernel : ∀ x ∈ lSt, S0 (x + 1) = false) x h
theorem SL_St_1f {x : Nat} (h : isSt x) : SL (x + 1) = false := (by decide +kernel : ∀ x ∈ lSt, SL (x + 1) = false) x h
theorem S1_St_1 {x : Nat} (h : isSt x) : S1 (x + 1) = true := (by decide +kernel : ∀ x ∈ lSt, S1 (x + 1) = true) x h
theorem S2_St_1 {x : Nat} (h : isSt x) : S2 (x + 1) = true := (by decide +kernel : ∀ x ∈ lSt, S2 (x + 1) = true) x h
theorem S3_St_1 {x : Nat} (h : isSt x) : S3 (x + 1) = true := (by decide +kernel : ∀ x ∈ lSt, S3 (x + 1) = true) x h
theorem S0_St_2f {x : Nat} (h : isSt x) : S0 (x + 2) = false := (by decide +kernel : ∀ x ∈ lSt, S0 (x + 2) = false) x h
theorem SL_St_2f {x : Nat} (h : isSt x) : SL (x + 2) = false := (by decide +kernel : ∀ x ∈ lSt, SL (x + 2) = false) x h
theorem S1_St_2 {x : Nat} (h : isSt x) : S1 (x + 2) = true := (by decide +kernel : ∀ x ∈ lSt, S1 (x + 2) = true) x h
theorem S2_St_2 {x : Nat} (h : isSt x) : S2 (x + 2) = true := (by decide +kernel : ∀ x ∈ lSt, S2 (x + 2) = true) x h
theorem S3_St_2 {x : Nat} (h : isSt x) : S3 (x + 2) = true := (by decide +kernel : ∀ x ∈ lSt, S3 (x + 2) = true) x h
theorem S0_St_3f {x : Nat} (h : isSt x) : S0 (x + 3) = false := (by decide +kernel : ∀ x ∈ lSt, S0 (x + 3) = false) x h
theorem SL_St_3f {x : Nat} (h : isSt x) : SL (x + 3) = false := (by decide +kernel : ∀ x ∈ lSt, SL (x + 3) = false) x h
theorem S1_St_3 {x : Nat} (h : isSt x) : S1 (x + 3) = true := (by decide +kernel : ∀ x ∈ lSt, S1 (x + 3) = true) x h
theorem S2_St_3 {x : Nat} (h : isSt x) : S2 (x + 3) = true := (by decide +kernel : ∀ x ∈ lSt, S2 (x + 3) = true) x h
theorem S3_St_3 {x : Nat} (h : isSt x) : S3 (x + 3) = true := (by decide +kernel : ∀ x ∈ lSt, S3 (x + 3) = true) x h
theorem S0_St_4f {x : Nat} (h : isSt x) : S0 (x + 4) = false := (by decide +kernel : ∀ x ∈ lSt, S0 (x + 4) = false) x h
theorem SL_St_4f {x : Nat} (h : isSt x) : SL (x + 4) = false := (by decide +kernel : ∀ x ∈ lSt, SL (x + 4) = false) x h
theorem S1_St_4 {x : Nat} (h : isSt x) : S1 (x + 4) = true := (by decide +kernel : ∀ x ∈ lSt, S1 (x + 4) = true) x h
theorem S2_St_4 {x : Nat} (h : isSt x) : S2 (x + 4) = true := (by decide +kernel : ∀ x ∈ lSt, S2 (x + 4) = true) x h
theorem S3_St_4 {x : Nat} (h : isSt x) : S3 (x + 4) = true := (by decide +kernel : ∀ x ∈ lSt, S3 (x + 4) = true) x h
theorem S0_St_5f {x : Nat} (h : isSt x) : S0 (x + 5) = false := (by decide +kernel : ∀ x ∈ lSt, S0 (x + 5) = false) x h
theorem SL_St_5f {x : Nat} (h : isSt x) : SL (x + 5) = false := (by decide +kernel : ∀ x ∈ lSt, SL (x + 5) = false) x h
theorem S1_St_5 {x : Nat} (h : isSt x) : S1 (x + 5) = true := (by decide +kernel : ∀ x ∈ lSt, S1 (x + 5) = true) x h
theorem S2_St_5 {x : Nat} (h : isSt x) : S2 (x + 5) = true := (by decide +kernel : ∀ x ∈ lSt, S2 (x + 5) = true) x h
theorem S3_St_5 {x : Nat} (h : isSt x) : S3 (x + 5) = true := (by decide +kernel : ∀ x ∈ lSt, S3 (x + 5) = true) x h
theorem S0_St_6f {x : Nat} (h : isSt x) : S0 (x + 6) = false := (by decide +kernel : ∀ x ∈ lSt, S0 (x + 6) = false) x h
theorem SL_St_6f {x : Nat} (h : isSt x) : SL (x + 6) = false := (by decide +kernel : ∀ x ∈ lSt, SL (x + 6) = false) x h
theorem S1_St_6 {x : Nat} (h : isSt x) : S1 (x + 6) = true := (by decide +kernel : ∀ x ∈ lSt, S1 (x + 6) = true) x h
theorem S2_St_6 {x : Nat} (h : isSt x) : S2 (x + 6) = true := (by decide +kernel : ∀ x ∈ lSt, S2 (x + 6) = true) x h
theorem S3_St_6 {x : Nat} (h : isSt x) : S3 (x + 6) = true := (by decide +kernel : ∀ x ∈ lSt, S3 (x + 6) = true) x h
theorem S0_La_0f {x : Nat} (h : isLa x) : S0 (x) = false := (by decide +kernel : ∀ x ∈ lLa, S0 (x) = false) x h
theorem SL_La_0f {x : Nat} (h : isLa x) : SL (x) = false := (by decide +kernel : ∀ x ∈ lLa, SL (x) = false) x h
theorem S1_La_0f {x : Nat} (h : isLa x) : S1 (x) = false := (by decide +kernel : ∀ x ∈ lLa, S1 (x) = false) x h
theorem S2_La_0 {x : Nat} (h : isLa x) : S2 (x) = true := (by decide +kernel : ∀ x ∈ lLa, S2 (x) = true) x h
theorem S3_La_0 {x : Nat} (h : isLa x) : S3 (x) = true := (by decide +kernel : ∀ x ∈ lLa, S3 (x) = true) x h
theorem S0_La_1f {x : Nat} (h : isLa x) : S0 (x + 1) = false := (by decide +kernel : ∀ x ∈ lLa, S0 (x + 1) = false) x h
theorem SL_La_1f {x : Nat} (h : isLa x) : SL (x + 1) = false := (by decide +kernel : ∀ x ∈ lLa, SL (x + 1) = false) x h
theorem S1_La_1f {x : Nat} (h : isLa x) : S1 (x + 1) = false := (by decide +kernel : ∀ x ∈ lLa, S1 (x + 1) = false) x h
theorem S2_La_1 {x : Nat} (h : isLa x) : S2 (x + 1) = true := (by decide +kernel : ∀ x ∈ lLa, S2 (x + 1) = true) x h
theorem S3_La_1 {x : Nat} (h : isLa x) : S3 (x + 1) = true := (by decide +kernel : ∀ x ∈ lLa, S3 (x + 1) = true) x h
theorem S0_La_2f {x : Nat} (h : isLa x) : S0 (x + 2) = false := (by decide +kernel : ∀ x ∈ lLa, S0 (x + 2) = false) x h
theorem SL_La_2f {x : Nat} (h : isLa x) : SL (x + 2) = false := (by decide +kernel : ∀ x ∈ lLa, SL (x + 2) = false) x h
theorem S1_La_2f {x : Nat} (h : isLa x) : S1 (x + 2) = false := (by decide +kernel : ∀ x ∈ lLa, S1 (x + 2) = false) x h
theorem S2_La_2 {x : Nat} (h : isLa x) : S2 (x + 2) = true := (by decide +kernel : ∀ x ∈ lLa, S2 (x + 2) = true) x h
theorem S3_La_2 {x : Nat} (h : isLa x) : S3 (x + 2) = true := (by decide +kernel : ∀ x ∈ lLa, S3 (x + 2) = true) x h
theorem S0_La_3f {x : Nat} (h : isLa x) : S0 (x + 3) = false := (by decide +kernel : ∀ x ∈ lLa, S0 (x + 3) = false) x h
theorem SL_La_3f {x : Nat} (h : isLa x) : SL (x + 3) = false := (by decide +kernel : ∀ x ∈ lLa, SL (x + 3) = false) x h
theorem S1_La_3f {x : Nat} (h : isLa x) : S1 (x + 3) = false := (by decide +kernel : ∀ x ∈ lLa, S1 (x + 3) = false) x h
theorem S2_La_3 {x : Nat} (h : isLa x) : S2 (x + 3) = true := (by decide +kernel : ∀ x ∈ lLa, S2 (x + 3) = true) x h
theorem S3_La_3 {x : Nat} (h : isLa x) : S3 (x + 3) = true := (by decide +kernel : ∀ x ∈ lLa, S3 (x + 3) = true) x h
theorem S0_La_4f {x : Nat} (h : isLa x) : S0 (x + 4) = false := (by decide +kernel : ∀ x ∈ lLa, S0 (x + 4) = false) x h
theorem SL_La_4f {x : Nat} (h : isLa x) : SL (x + 4) = false := (by decide +kernel : ∀ x ∈ lLa, SL (x + 4) = false) x h
theorem S1_La_4f {x : Nat} (h : isLa x) : S1 (x + 4) = false := (by decide +kernel : ∀ x ∈ lLa, S1 (x + 4) = false) x h
theorem S2_La_4 {x : Nat} (h : isLa x) : S2 (x + 4) = true := (by decide +kernel : ∀ x ∈ lLa, S2 (x + 4) = true) x h
theorem S3_La_4 {x : Nat} (h : isLa x) : S3 (x + 4) = true := (by decide +kernel : ∀ x ∈ lLa, S3 (x + 4) = true) x h
theorem S0_La_5f {x : Nat} (h : isLa x) : S0 (x + 5) = false := (by decide +kernel : ∀ x ∈ lLa, S0 (x + 5) = false) x h
theorem SL_La_5f {x : Nat} (h : isLa x) : SL (x + 5) = false := (by decide +kernel : ∀ x ∈ lLa, SL (x + 5) = false) x h
theorem S1_La_5f {x : Nat} (h : isLa x) : S1 (x + 5) = false := (by decide +kernel : ∀ x ∈ lLa, S1 (x + 5) = false) x h
theorem S2_La_5 {x : Nat} (h : isLa x) : S2 (x + 5) = true := (by decide +kernel : ∀ x ∈ lLa, S2 (x + 5) = true) x h
theorem S3_La_5 {x : Nat} (h : isLa x) : S3 (x + 5) = true := (by decide +kernel : ∀ x ∈ lLa, S3 (x + 5) = true) x h
theorem S0_La_6f {x : Nat} (h : isLa x) : S0 (x + 6) = false := (by decide +kernel : ∀ x ∈ lLa, S0 (x + 6) = false) x h
theorem SL_La_6f {x : Nat} (h : isLa x) : SL (x + 6) = false := (by decide +kernel : ∀ x ∈ lLa, SL (x + 6) = false) x h
theorem S1_La_6f {x : Nat} (h : isLa x) : S1 (x + 6) = false := (by decide +kernel : ∀ x ∈ lLa, S1 (x + 6) = false) x h
theorem S2_La_6 {x : Nat} (h : isLa x) : S2 (x + 6) = true := (by decide +kernel : ∀ x ∈ lLa, S2 (x + 6) = true) x h
theorem S3_La_6 {x : Nat} (h : isLa x) : S3 (x + 6) = true := (by decide +kernel : ∀ x ∈ lLa, S3 (x + 6) = true) x h
theorem S0_La_7f {x : Nat} (h : isLa x) : S0 (x + 7) = false := (by decide +kernel : ∀ x ∈ lLa, S0 (x + 7) = false) x h
theorem SL_La_7f {x : Nat} (h : isLa x) : SL (x + 7) = false := (by decide +kernel : ∀ x ∈ lLa, SL (x + 7) = false) x h
theorem S1_La_7f {x : Nat} (h : isLa x) : S1 (x + 7) = false := (by decide +kernel : ∀ x ∈ lLa, S1 (x + 7) = false) x h
theorem S2_La_7 {x : Nat} (h : isLa x) : S2 (x + 7) = true := (by decide +kernel : ∀ x ∈ lLa, S2 (x + 7) = true) x h
theorem S3_La_7 {x : Nat} (h : isLa x) : S3 (x + 7) = true := (by decide +kernel : ∀ x ∈ lLa, S3 (x + 7) = true) x h
theorem S0_La_8f {x : Nat} (h : isLa x) : S0 (x + 8) = false := (by decide +kernel : ∀ x ∈ lLa, S0 (x + 8) = false) x h
theorem SL_La_8f {x : Nat} (h : isLa x) : SL (x + 8) = false := (by decide +kernel : ∀ x ∈ lLa, SL (x + 8) = false) x h
theorem S1_La_8f {x : Nat} (h : isLa x) : S1 (x + 8) = false := (by decide +kernel : ∀ x ∈ lLa, S1 (x + 8) = false) x h
theorem S2_La_8 {x : Nat} (h : isLa x) : S2 (x + 8) = true := (by decide +kernel : ∀ x ∈ lLa, S2 (x + 8) = true) x h
theorem S3_La_8 {x : Nat} (h : isLa x) : S3 (x + 8) = true := (by decide +kernel : ∀ x ∈ lLa, S3 (x + 8) = true) x h
theorem S0_La_9f {x : Nat} (h : isLa x) : S0 (x + 9) = false := (by decide +kernel : ∀ x ∈ lLa, S0 (x + 9) = false) x h
theorem SL_La_9 {x : Nat} (h : isLa x) : SL (x + 9) = true := (by decide +kernel : ∀ x ∈ lLa, SL (x + 9) = true) x h
theorem S1_La_9f {x : Nat} (h : isLa x) : S1 (x + 9) = false := (by decide +kernel : ∀ x ∈ lLa, S1 (x + 9) = false) x h
theorem S2_La_9 {x : Nat} (h : isLa x) : S2 (x + 9) = true := (by decide +kernel : ∀ x ∈ lLa, S2 (x + 9) = true) x h
theorem S3_La_9 {x : Nat} (h : isLa x) : S3 (x + 9) = true := (by decide +kernel : ∀ x ∈ lLa, S3 (x + 9) = true) x h
theorem S0_La_10f {x : Nat} (h : isLa x) : S0 (x + 10) = false := (by decide +kernel : ∀ x ∈ lLa, S0 (x + 10) = false) x h
theorem SL_La_10 {x : Nat} (h : isLa x) : SL (x + 10) = true := (by decide +kernel : ∀ x ∈ lLa, SL (x + 10) = true) x h
theorem S1_La_10f {x : Nat} (h : isLa x) : S1 (x + 10) = false := (by decide +kernel : ∀ x ∈ lLa, S1 (x + 10) = false) x h
theorem S2_La_10 {x : Nat} (h : isLa x) : S2 (x + 10) = true := (by decide +kernel : ∀ x ∈ lLa, S2 (x + 10) = true) x h
theorem S3_La_10 {x : Nat} (h : isLa x) : S3 (x + 10) = true := (by decide +kernel : ∀ x ∈ lLa, S3 (x + 10) = true) x h
theorem S0_La_11 {x : Nat} (h : isLa x) : S0 (x + 11) = true := (by decide +kernel : ∀ x ∈ lLa, S0 (x + 11) = true) x h
theorem SL_La_11 {x : Nat} (h : isLa x) : SL (x + 11) = true := (by decide +kernel : ∀ x ∈ lLa, SL (x + 11) = true) x h
theorem S1_La_11 {x : Nat} (h : isLa x) : S1 (x + 11) = true := (by decide +kernel : ∀ x ∈ lLa, S1 (x + 11) = true) x h
theorem S2_La_11 {x : Nat} (h : isLa x) : S2 (x + 11) = true := (by decide +kernel : ∀ x ∈ lLa, S2 (x + 11) = true) x h
theorem S3_La_11 {x : Nat} (h : isLa x) : S3 (x + 11) = true := (by decide +kernel : ∀ x ∈ lLa, S3 (x + 11) = true) x h
theorem S0_La_12 {x : Nat} (h : isLa x) : S0 (x + 12) = true := (by decide +kernel : ∀ x ∈ lLa, S0 (x + 12) = true) x h
theorem SL_La_12 {x : Nat} (h : isLa x) : SL (x + 12) = true := (by decide +kernel : ∀ x ∈ lLa, SL (x + 12) = true) x h
theorem S1_La_12 {x : Nat} (h : isLa x) : S1 (x + 12) = true := (by decide +kernel : ∀ x ∈ lLa, S1 (x + 12) = true) x h
theorem S2_La_12 {x : Nat} (h : isLa x) : S2 (x + 12) = true := (by decide +kernel : ∀ x ∈ lLa, S2 (x + 12) = true) x h
theorem S3_La_12 {x : Nat} (h : isLa x) : S3 (x + 12) = true := (by decide +kernel : ∀ x ∈ lLa, S3 (x + 12) = true) x h
theorem S0_La_13f {x : Nat} (h : isLa x) : S0 (x + 13) = false := (by decide +kernel : ∀ x ∈ lLa, S0 (x + 13) = false) x h
theorem SL_La_13 {x : Nat} (h : isLa x) : SL (x + 13) = true := (by decide +kernel : ∀ x ∈ lLa, SL (x + 13) = true) x h
theorem S1_La_13f {x : Nat} (h : isLa x) : S1 (x + 13) = false := (by decide +kernel : ∀ x ∈ lLa, S1 (x + 13) = false) x h
theorem S2_La_13 {x : Nat} (h : isLa x) : S2 (x + 13) = true := (by decide +kernel : ∀ x ∈ lLa, S2 (x + 13) = true) x h
theorem S3_La_13 {x : Nat} (h : isLa x) : S3 (x + 13) = true := (by decide +kernel : ∀ x ∈ lLa, S3 (x + 13) = true) x h
theorem S0_La_14f {x : Nat} (h : isLa x) : S0 (x + 14) = false := (by decide +kernel : ∀ x ∈ lLa, S0 (x + 14) = false) x h
theorem SL_La_14 {x : Nat} (h : isLa x) : SL (x + 14) = true := (by decide +kernel : ∀ x ∈ lLa, SL (x + 14) = true) x h
theorem S1_La_14f {x : Nat} (h : isLa x) : S1 (x + 14) = false := (by decide +kernel : ∀ x ∈ lLa, S1 (x + 14) = false) x h
theorem S2_La_14 {x : Nat} (h : isLa x) : S2 (x + 14) = true := (by decide +kernel : ∀ x ∈ lLa, S2 (x + 14) = true) x h
theorem S3_La_14 {x : Nat} (h : isLa x) : S3 (x + 14) = true := (by decide +kernel : ∀ x ∈ lLa, S3 (x + 14) = true) x h
theorem S0_La_15 {x : Nat} (h : isLa x) : S0 (x + 15) = true := (by decide +kernel : ∀ x ∈ lLa, S0 (x + 15) = true) x h
theorem SL_La_15 {x : Nat} (h : isLa x) : SL (x + 15) = true := (by decide +kernel : ∀ x ∈ lLa, SL (x + 15) = true) x h
theorem S1_La_15 {x : Nat} (h : isLa x) : S1 (x + 15) = true := (by decide +kernel : ∀ x ∈ lLa, S1 (x + 15) = true) x h
theorem S2_La_15 {x : Nat} (h : isLa x) : S2 (x + 15) = true := (by decide +kernel : ∀ x ∈ lLa, S2 (x + 15) = true) x h
theorem S3_La_15 {x : Nat} (h : isLa x) : S3 (x + 15) = true := (by decide +kernel : ∀ x ∈ lLa, S3 (x + 15) = true) x h
theorem S0_La_16 {x : Nat} (h : isLa x) : S0 (x + 16) = true := (by decide +kernel : ∀ x ∈ lLa, S0 (x + 16) = true) x h
theorem SL_La_16 {x : Nat} (h : isLa x) : SL (x + 16) = true := (by decide +kernel : ∀ x ∈ lLa, SL (x + 16) = true) x h
theorem S1_La_16 {x : Nat} (h : isLa x) : S1 (x + 16) = true := (by decide +kernel : ∀ x ∈ lLa, S1 (x + 16) = true) x h
theorem S2_La_16 {x : Nat} (h : isLa x) : S2 (x + 16) = true := (by decide +kernel : ∀ x ∈ lLa, S2 (x + 16) = true) x h
theorem S3_La_16 {x : Nat} (h : isLa x) : S3 (x + 16) = true := (by decide +kernel : ∀ x ∈ lLa, S3 (x + 16) = true) x h
theorem S0_La_17f {x : Nat} (h : isLa x) : S0 (x + 17) = false := (by decide +kernel : ∀ x ∈ lLa, S0 (x + 17) = false) x h
theorem SL_La_17 {x : Nat} (h : isLa x) : SL (x + 17) = true := (by decide +kernel : ∀ x ∈ lLa, SL (x + 17) = true) x h
theorem S1_La_17f {x : Nat} (h : isLa x) : S1 (x + 17) = false := (by decide +kernel : ∀ x ∈ lLa, S1 (x + 17) = false) x h
theorem S2_La_17 {x : Nat} (h : isLa x) : S2 (x + 17) = true := (by decide +kernel : ∀ x ∈ lLa, S2 (x + 17) = true) x h
theorem S3_La_17 {x : Nat} (h : isLa x) : S3 (x + 17) = true := (by decide +kernel : ∀ x ∈ lLa, S3 (x + 17) = true) x h
theorem S0_La_18f {x : Nat} (h : isLa x) : S0 (x + 18) = false := (by decide +kernel : ∀ x ∈ lLa, S0 (x + 18) = false) x h
theorem SL_La_18 {x : Nat} (h : isLa x) : SL (x + 18) = true := (by decide +kernel : ∀ x ∈ lLa, SL (x + 18) = true) x h
theorem S1_La_18f {x : Nat} (h : isLa x) : S1 (x + 18) = false := (by decide +kernel : ∀ x ∈ lLa, S1 (x + 18) = false) x h
theorem S2_La_18 {x : Nat} (h : isLa x) : S2 (x + 18) = true := (by decide +kernel : ∀ x ∈ lLa, S2 (x + 18) = true) x h
theorem S3_La_18 {x : Nat} (h : isLa x) : S3 (x + 18) = true := (by decide +kernel : ∀ x ∈ lLa, S3 (x + 18) = true) x h
theorem S0_La_19 {x : Nat} (h : isLa x) : S0 (x + 19) = true := (by decide +kernel : ∀ x ∈ lLa, S0 (x + 19) = true) x h
theorem SL_La_19 {x : Nat} (h : isLa x) : SL (x + 19) = true := (by decide +kernel : ∀ x ∈ lLa, SL (x + 19) = true) x h
theorem S1_La_19 {x : Nat} (h : isLa x) : S1 (x + 19) = true := (by decide +kernel : ∀ x ∈ lLa, S1 (x + 19) = true) x h
theorem S2_La_19 {x : Nat} (h : isLa x) : S2 (x + 19) = true := (by decide +kernel : ∀ x ∈ lLa, S2 (x + 19) = true) x h
theorem S3_La_19 {x : Nat} (h : isLa x) : S3 (x + 19) = true := (by decide +kernel : ∀ x ∈ lLa, S3 (x + 19) = true) x h
theorem S0_La_20 {x : Nat} (h : isLa x) : S0 (x + 20) = true := (by decide +kernel : ∀ x ∈ lLa, S0 (x + 20) = true) x h
theorem SL_La_20 {x : Nat} (h : isLa x) : SL (x + 20) = true := (by decide +kernel : ∀ x ∈ lLa, SL (x + 20) = true) x h
theorem S1_La_20 {x : Nat} (h : isLa x) : S1 (x + 20) = true := (by decide +kernel : ∀ x ∈ lLa, S1 (x + 20) = true) x h
theorem S2_La_20 {x : Nat} (h : isLa x) : S2 (x + 20) = true := (by decide +kernel : ∀ x ∈ lLa, S2 (x + 20) = true) x h
theorem S3_La_20 {x : Nat} (h : isLa x) : S3 (x + 20) = true := (by decide +kernel : ∀ x ∈ lLa, S3 (x + 20) = true) x h
theorem S0_La_21f {x : Nat} (h : isLa x) : S0 (x + 21) = false := (by decide +kernel : ∀ x ∈ lLa, S0 (x + 21) = false) x h
theorem SL_La_21 {x : Nat} (h : isLa x) : SL (x + 21) = true := (by decide +kernel : ∀ x ∈ lLa, SL (x + 21) = true) x h
theorem S1_La_21f {x : Nat} (h : isLa x) : S1 (x + 21) = false := (by decide +kernel : ∀ x ∈ lLa, S1 (x + 21) = false) x h
theorem S2_La_21 {x : Nat} (h : isLa x) : S2 (x + 21) = true := (by decide +kernel : ∀ x ∈ lLa, S2 (x + 21) = true) x h
theorem S3_La_21 {x : Nat} (h : isLa x) : S3 (x + 21) = true := (by decide +kernel : ∀ x ∈ lLa, S3 (x + 21) = true) x h
theorem S0_La_22f {x : Nat} (h : isLa x) : S0 (x + 22) = false := (by decide +kernel : ∀ x ∈ lLa, S0 (x + 22) = false) x h
theorem SL_La_22 {x : Nat} (h : isLa x) : SL (x + 22) = true := (by decide +kernel : ∀ x ∈ lLa, SL (x + 22) = true) x h
theorem S1_La_22f {x : Nat} (h : isLa x) : S1 (x + 22) = false := (by decide +kernel : ∀ x ∈ lLa, S1 (x + 22) = false) x h
theorem S2_La_22 {x : Nat} (h : isLa x) : S2 (x + 22) = true := (by decide +kernel : ∀ x ∈ lLa, S2 (x + 22) = true) x h
theorem S3_La_22 {x : Nat} (h : isLa x) : S3 (x + 22) = true := (by decide +kernel : ∀ x ∈ lLa, S3 (x + 22) = true) x h
theorem S0_La_23 {x : Nat} (h : isLa x) : S0 (x + 23) = true := (by decide +kernel : ∀ x ∈ lLa, S0 (x + 23) = true) x h
theorem SL_La_23 {x : Nat} (h : isLa x) : SL (x + 23) = true := (by decide +kernel : ∀ x ∈ lLa, SL (x + 23) = true) x h
theorem S1_La_23 {x : Nat} (h : isLa x) : S1 (x + 23) = true := (by decide +kernel : ∀ x ∈ lLa, S1 (x + 23) = true) x h
theorem S2_La_23 {x : Nat} (h : isLa x) : S2 (x + 23) = true := (by decide +kernel : ∀ x ∈ lLa, S2 (x + 23) = true) x h
theorem S3_La_23 {x : Nat} (h : isLa x) : S3 (x + 23) = true := (by decide +kernel : ∀ x ∈ lLa, S3 (x + 23) = true) x h
theorem S0_La_24 {x : Nat} (h : isLa x) : S0 (x + 24) = true := (by decide +kernel : ∀ x ∈ lLa, S0 (x + 24) = true) x h
theorem SL_La_24 {x : Nat} (h : isLa x) : SL (x + 24) = true := (by decide +kernel : ∀ x ∈ lLa, SL (x + 24) = true) x h
theorem S1_La_24 {x : Nat} (h : isLa x) : S1 (x + 24) = true := (by decide +kernel : ∀ x ∈ lLa, S1 (x + 24) = true) x h
theorem S2_La_24 {x : Nat} (h : isLa x) : S2 (x + 24) = true := (by decide +kernel : ∀ x ∈ lLa, S2 (x + 24) = true) x h
theorem S3_La_24 {x : Nat} (h : isLa x) : S3 (x + 24) = true := (by decide +kernel : ∀ x ∈ lLa, S3 (x + 24) = true) x h
theorem S0_La_25 {x : Nat} (h : isLa x) : S0 (x + 25) = true := (by decide +kernel : ∀ x ∈ lLa, S0 (x + 25) = true) x h
theorem SL_La_25 {x : Nat} (h : isLa x) : SL (x + 25) = true := (by decide +kernel : ∀ x ∈ lLa, SL (x + 25) = true) x h
theorem S1_La_25 {x : Nat} (h : isLa x) : S1 (x + 25) = true := (by decide +kernel : ∀ x ∈ lLa, S1 (x + 25) = true) x h
theorem S2_La_25 {x : Nat} (h : isLa x) : S2 (x + 25) = true := (by decide +kernel : ∀ x ∈ lLa, S2 (x + 25) = true) x h
theorem S3_La_25 {x : Nat} (h : isLa x) : S3 (x + 25) = true := (by decide +kernel : ∀ x ∈ lLa, S3 (x + 25) = true) x h
theorem S0_Lw_0f {x : Nat} (h : isLw x) : S0 (x) = false := (by decide +kernel : ∀ x ∈ lLw, S0 (x) = false) x h
theorem SL_Lw_0 {x : Nat} (h : isLw x) : SL (x) = true := (by decide +kernel : ∀ x ∈ lLw, SL (x) = true) x h
theorem S1_Lw_0f {x : Nat} (h : isLw x) : S1 (x) = false := (by decide +kernel : ∀ x ∈ lLw, S1 (x) = false) x h
theorem S2_Lw_0 {x : Nat} (h : isLw x) : S2 (x) = true := (by decide +kernel : ∀ x ∈ lLw, S2 (x) = true) x h
theorem S3_Lw_0 {x : Nat} (h : isLw x) : S3 (x) = true := (by decide +kernel : ∀ x ∈ lLw, S3 (x) = true) x h
theorem S0_Lw_1f {x : Nat} (h : isLw x) : S0 (x + 1) = false := (by decide +kernel : ∀ x ∈ lLw, S0 (x + 1) = false) x h
theorem SL_Lw_1 {x : Nat} (h : isLw x) : SL (x + 1) = true := (by decide +kernel : ∀ x ∈ lLw, SL (x + 1) = true) x h
theorem S1_Lw_1f {x : Nat} (h : isLw x) : S1 (x + 1) = false := (by decide +kernel : ∀ x ∈ lLw, S1 (x + 1) = false) x h
theorem S2_Lw_1 {x : Nat} (h : isLw x) : S2 (x + 1) = true := (by decide +kernel : ∀ x ∈ lLw, S2 (x + 1) = true) x h
theorem S3_Lw_1 {x : Nat} (h : isLw x) : S3 (x + 1) = true := (by decide +kernel : ∀ x ∈ lLw, S3 (x + 1) = true) x h
theorem S0_Lw_2 {x : Nat} (h : isLw x) : S0 (x + 2) = true := (by decide +kernel : ∀ x ∈ lLw, S0 (x + 2) = true) x h
theorem SL_Lw_2 {x : Nat} (h : isLw x) : SL (x + 2) = true := (by decide +kernel : ∀ x ∈ lLw, SL (x + 2) = true) x h
theorem S1_Lw_2 {x : Nat} (h : isLw x) : S1 (x + 2) = true := (by decide +kernel : ∀ x ∈ lLw, S1 (x + 2) = true) x h
theorem S2_Lw_2 {x : Nat} (h : isLw x) : S2 (x + 2) = true := (by decide +kernel : ∀ x ∈ lLw, S2 (x + 2) = true) x h
theorem S3_Lw_2 {x : Nat} (h : isLw x) : S3 (x + 2) = true := (by decide +kernel : ∀ x ∈ lLw, S3 (x + 2) = true) x h
theorem S0_Lw_3 {x : Nat} (h : isLw x) : S0 (x + 3) = true := (by decide +kernel : ∀ x ∈ lLw, S0 (x + 3) = true) x h
theorem SL_Lw_3 {x : Nat} (h : isLw x) : SL (x + 3) = true := (by decide +kernel : ∀ x ∈ lLw, SL (x + 3) = true) x h
theorem S1_Lw_3 {x : Nat} (h : isLw x) : S1 (x + 3) = true := (by decide +kernel : ∀ x ∈ lLw, S1 (x + 3) = true) x h
theorem S2_Lw_3 {x : Nat} (h : isLw x) : S2 (x + 3) = true := (by decide +kernel : ∀ x ∈ lLw, S2 (x + 3) = true) x h
theorem S3_Lw_3 {x : Nat} (h : isLw x) : S3 (x + 3) = true := (by decide +kernel : ∀ x ∈ lLw, S3 (x + 3) = true) x h
theorem rfArr_79 (ld : Nat) {i : Int32} (h : vp_in i 40) : ∃ X, isSt X ∧ rf ld 79 i.toNatClampNeg = some X := by
  have hi : i.toNatClampNeg < 40 := Nat.not_le.mp fun q => h (Or.inr q)
  have e : ∀ j, j < 40 → isSt (80 + 7 * j) ∧ rfd ((rft.getD 79 []).getD j 0) = some (80 + 7 * j) := (by decide +kernel : ∀ j, j < 40 → (80 + 7 * j) ∈ lSt ∧ rfd ((rft.getD 79 []).getD j 0) = some (80 + 7 * j))
  exact ⟨_, (e _ hi).1, (e _ hi).2⟩
theorem rfArr_361 (ld : Nat) {i : Int32} (h : vp_in i 3) : ∃ X, isSt X ∧ rf ld 361 i.toNatClampNeg = some X := by
  have hi : i.toNatClampNeg < 3 := Nat.not_le.mp fun q => h (Or.inr q)
  have e : ∀ j, j < 3 → isSt (362 + 7 * j) ∧ rfd ((rft.getD 361 []).getD j 0) = some (362 + 7 * j) := (by decide +kernel : ∀ j, j < 3 → (362 + 7 * j) ∈ lSt ∧ rfd ((rft.getD 361 []).getD j 0) = some (362 + 7 * j))
  exact ⟨_, (e _ hi).1, (e _ hi).2⟩
theorem md_upe {x x' y : Int32} {f : Nat} (h : ¬ y < x) (hy : y.toInt < 2147483647) (e : x' = x + 1) (hm : (y.toInt + 1 - x.toInt).toNat < f + 1) : (y.toInt + 1 - x'.toInt).toNat < f := by
  have h1 : x.toInt ≤ y.toInt := by rw [i_lt] at h; omega
  have h2 : (x + 1).toInt = x.toInt + 1 := by
    have h3 := i_b x
    rw [Int32.toInt_add]
    have e : (1 : Int32).toInt = 1 := by decide
    rw [e, Int.bmod_eq_of_le (by omega) (by omega)]
  rw [e, h2]
  omega
theorem nn_up {x x' y : Int32} (h : ¬ y ≤ x) (e : x' = x + 1) (h0 : ¬ x < 0) : ¬ x' < 0 := by
  have h1 : x < y := by rw [i_lt]; rw [i_le] at h; omega
  have h2 := i_add1 h1
  rw [i_lt, Int32.toInt_zero] at h0 ⊢
  rw [e, h2]; omega
theorem nn_upe {x x' y : Int32} (h : ¬ y < x) (hy : y.toInt < 2147483647) (e : x' = x + 1) (h0 : ¬ x < 0) : ¬ x' < 0 := by
  have h1 : x.toInt ≤ y.toInt := by rw [i_lt] at h; omega
  have h2 : (x + 1).toInt = x.toInt + 1 := by
    have h3 := i_b x
    rw [Int32.toInt_add]
    have e : (1 : Int32).toInt = 1 := by decide
    rw [e, Int.bmod_eq_of_le (by omega) (by omega)]
  rw [i_lt, Int32.toInt_zero] at h0 ⊢
  rw [e, h2]; omega
theorem md_dn8 {x x' : Int32} {f : Nat} (h : ¬ x < 0) (e : x' = x + (-8)) (hm : (x.toInt + 8).toNat < f + 1) : (x'.toInt + 8).toNat < f := by
  have h1 := mt i_lt.mpr h
  rw [Int32.toInt_zero] at h1
  have h3 := i_b x
  have h2 : (x + (-8)).toInt = x.toInt - 8 := by
    rw [Int32.toInt_add]
    have e : (-8 : Int32).toInt = -8 := by decide
    rw [e, Int.bmod_eq_of_le (by omega) (by omega)]
    omega
  rw [e, h2]
  omega
