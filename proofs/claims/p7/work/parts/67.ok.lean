/-! a function comes to a value that has P -/
def Ok {τ : Type} (o : Option τ) (P : τ → Prop) : Prop := ∃ q, o = some q ∧ P q
section OK
variable {τ : Type} {P P' : τ → Prop}
theorem Ok.pure {q : τ} (h : P q) : Ok (some q) P := ⟨q, rfl, h⟩
theorem Ok.imp {o : Option τ} (h : Ok o P) (k : ∀ q, P q → P' q) : Ok o P' := by
  obtain ⟨q, h1, h2⟩ := h
  exact ⟨q, h1, k q h2⟩
theorem Ok.ite {c : Prop} [Decidable c] {A B : Option τ} (h1 : c → Ok A P) (h2 : ¬ c → Ok B P) : Ok (if c then A else B) P := by
  by_cases h : c
  · rw [if_pos h]; exact h1 h
  · rw [if_neg h]; exact h2 h
theorem Ok.gd {c : Prop} [Decidable c] {B : Option τ} (h : ¬ c) (k : Ok B P) : Ok (if c then none else B) P := by rw [if_neg h]; exact k
theorem Ok.gp {c : Prop} [Decidable c] {B : Option τ} (h : c) (k : Ok B P) : Ok (if c then B else none) P := by rw [if_pos h]; exact k
theorem Ok.nmM {v : gM} {f : gM → Option τ} (k : ∀ x, x = v → Ok (f x) P) : Ok (nmM v f) P := k v rfl
theorem Ok.nmL {v : gL} {f : gL → Option τ} (k : ∀ x, x = v → Ok (f x) P) : Ok (nmL v f) P := k v rfl
theorem Ok.nmI {v : Int32} {f : Int32 → Option τ} (k : ∀ x, x = v → Ok (f x) P) : Ok (nmI v f) P := k v rfl
theorem Ok.nmJ {v : Int64} {f : Int64 → Option τ} (k : ∀ x, x = v → Ok (f x) P) : Ok (nmJ v f) P := k v rfl
theorem Ok.c1 {α : Type} {o : Option α} {f : α → Option τ} {A : α → Prop} (h : ∃ a, o = some a ∧ A a) (k : ∀ a, A a → Ok (f a) P) : Ok (bI o f) P := by
  obtain ⟨a, rfl, h⟩ := h
  exact k a h
theorem Ok.c2 {α β : Type} {o : Option (α × β)} {f : α → β → Option τ} {A : α → β → Prop} (h : ∃ a b, o = some (a, b) ∧ A a b) (k : ∀ a b, A a b → Ok (f a b) P) : Ok (bI2 o f) P := by
  obtain ⟨a, b, rfl, h⟩ := h
  exact k a b h
theorem Ok.c3 {α β γ : Type} {o : Option (α × β × γ)} {f : α → β → γ → Option τ} {A : α → β → γ → Prop} (h : ∃ a b c, o = some (a, b, c) ∧ A a b c) (k : ∀ a b c, A a b c → Ok (f a b c) P) : Ok (bI3 o f) P := by
  obtain ⟨a, b, c, rfl, h⟩ := h
  exact k a b c h
theorem Ok.x2 {α β : Type} {o : Option (α × β)} {A : α → β → Prop} (h : Ok o (fun q => A q.1 q.2)) : ∃ a b, o = some (a, b) ∧ A a b := by
  obtain ⟨q, h1, h2⟩ := h
  exact ⟨q.1, q.2, h1, h2⟩
end OK
def zL : gL := fun _ _ => 0
def scrL : List Nat := [23, 24, 27, 28, 31, 32, 35, 36, 37, 49, 50, 53, 54, 57, 58, 61, 62, 63, 390]
def varL : List Nat := [23, 27, 31, 35, 49, 53, 57, 61]
def vok (c j : Nat) : Bool := ((c == 23 || c == 49) && (j == 0 || j == 1 || j == 2 || j == 3 || j == 4)) || ((c == 27 || c == 53) && (j == 0 || j == 2 || j == 4 || j == 5 || j == 6)) || ((c == 31 || c == 57) && (j == 2 || j == 4 || j == 7 || j == 8)) || ((c == 35 || c == 61) && (j == 1 || j == 3 || j == 4))
def C0 (c j : Nat) : Bool := scrL.contains c && (!(varL.contains c) || vok c j)
def C1 (c j : Nat) : Bool := C0 c j || (decide (71 ≤ c) && decide (c < 78)) || (c == 383 && !(j == 3)) || (decide (387 ≤ c) && decide (c < 401))
def CX (X c j : Nat) : Bool := C0 c j || (decide (X ≤ c) && decide (c < X + 7))
def Sc (c j : Nat) : Bool := C1 c j || MS1 c j
def oneL (a c _ : Nat) : Bool := c == a
theorem C0_C1 : ∀ c j, C0 c j = true → C1 c j = true := fun c j h => by unfold C1; rw [h]; rfl
theorem C0_CX {X : Nat} : ∀ c j, C0 c j = true → CX X c j = true := fun c j h => by unfold CX; rw [h]; rfl
theorem C1_Sc : ∀ c j, C1 c j = true → Sc c j = true := fun c j h => by unfold Sc; rw [h]; rfl
theorem C0_Sc : ∀ c j, C0 c j = true → Sc c j = true := fun c j h => C1_Sc c j (C0_C1 c j h)
theorem MS1_Sc : ∀ c j, MS1 c j = true → Sc c j = true := fun c j h => by unfold Sc; rw [h, Bool.or_true]
theorem MS0_Sc : ∀ c j, MS0 c j = true → Sc c j = true := fun c j h => MS1_Sc c j (MS0_MS1 c j h)
theorem CX_o {X c j : Nat} (h : X ≤ c ∧ c < X + 7) : CX X c j = true := by simp [CX, h.1, h.2]
theorem CX_C1 : ∀ c j, CX 71 c j = true → C1 c j = true := fun c j h => by
  unfold CX at h; unfold C1
  rcases (Bool.or_eq_true _ _).mp h with h | h
  · rw [h]; rfl
  · rw [show (decide (71 ≤ c) && decide (c < 78)) = true from h]; simp
theorem oneL_self (a j : Nat) : oneL a a j = true := by simp [oneL]
theorem oneL_S {S : Nat → Nat → Bool} {a : Nat} (h : ∀ j, S a j = true) : ∀ c j, oneL a c j = true → S c j = true := fun c j hc => by
  have : c = a := by simpa [oneL] using hc
  rw [this]; exact h j
theorem C0_f {c j : Nat} (h : scrL.contains c = false) : C0 c j = false := by unfold C0; rw [h]; rfl
theorem C1_f {c j : Nat} (h : scrL.contains c = false) (h2 : c < 71) : C1 c j = false := by
  unfold C1 C0
  rw [h]
  simp
  omega
theorem CX_f {X c j : Nat} (h : scrL.contains c = false) (h2 : c < X ∨ X + 7 ≤ c) : CX X c j = false := by
  unfold CX C0
  rw [h]
  simp
  omega
theorem St_La {X y : Nat} (h : isSt X) (g : isLa y) : y < X ∧ scrL.contains y = false := ⟨(by decide +kernel : ∀ y ∈ lLa, ∀ X ∈ lSt, y < X) y g X h, (by decide +kernel : ∀ y ∈ lLa, scrL.contains y = false) y g⟩
theorem CX_Laf {X y j : Nat} (h : isSt X) (g : isLa y) : CX X y j = false := CX_f (St_La h g).2 (Or.inl (St_La h g).1)
theorem fu_up {x y : Int32} : (y.toInt - x.toInt).toNat < FU := by
  have := i_b x; have := i_b y; unfold FU; omega
theorem fu_upe {x y : Int32} : (y.toInt + 1 - x.toInt).toNat < FU := by
  have := i_b x; have := i_b y; unfold FU; omega
theorem fu_dn {x : Int32} : (x.toInt + 1).toNat < FU := by
  have := i_b x; unfold FU; omega
theorem C0_list : ∀ x ∈ scrL, varL.contains x = false → ∀ j, C0 x j = true := fun x hx hv j => by
  have h1 : scrL.contains x = true := by simpa using hx
  unfold C0
  rw [h1, hv]
  rfl
theorem C0_St_0f {x : Nat} (h : isSt x) {j : Nat} : C0 (x) j = false := C0_f ((by decide +kernel : ∀ x ∈ lSt, scrL.contains (x) = false) x h)
theorem C0_St_1f {x : Nat} (h : isSt x) {j : Nat} : C0 (x + 1) j = false := C0_f ((by decide +kernel : ∀ x ∈ lSt, scrL.contains (x + 1) = false) x h)
theorem C0_St_2f {x : Nat} (h : isSt x) {j : Nat} : C0 (x + 2) j = false := C0_f ((by decide +kernel : ∀ x ∈ lSt, scrL.contains (x + 2) = false) x h)
theorem C0_St_3f {x : Nat} (h : isSt x) {j : Nat} : C0 (x + 3) j = false := C0_f ((by decide +kernel : ∀ x ∈ lSt, scrL.contains (x + 3) = false) x h)
theorem C0_St_4f {x : Nat} (h : isSt x) {j : Nat} : C0 (x + 4) j = false := C0_f ((by decide +kernel : ∀ x ∈ lSt, scrL.contains (x + 4) = false) x h)
theorem C0_St_5f {x : Nat} (h : isSt x) {j : Nat} : C0 (x + 5) j = false := C0_f ((by decide +kernel : ∀ x ∈ lSt, scrL.contains (x + 5) = false) x h)
theorem C0_St_6f {x : Nat} (h : isSt x) {j : Nat} : C0 (x + 6) j = false := C0_f ((by decide +kernel : ∀ x ∈ lSt, scrL.contains (x + 6) = false) x h)
theorem C0_La_12 {x : Nat} (h : isLa x) (j : Nat) : C0 (x + 12) j = true := C0_list _ ((by decide +kernel : ∀ x ∈ lLa, (x + 12) ∈ scrL) x h) ((by decide +kernel : ∀ x ∈ lLa, varL.contains (x + 12) = false) x h) j
theorem C0_La_16 {x : Nat} (h : isLa x) (j : Nat) : C0 (x + 16) j = true := C0_list _ ((by decide +kernel : ∀ x ∈ lLa, (x + 16) ∈ scrL) x h) ((by decide +kernel : ∀ x ∈ lLa, varL.contains (x + 16) = false) x h) j
theorem C0_La_20 {x : Nat} (h : isLa x) (j : Nat) : C0 (x + 20) j = true := C0_list _ ((by decide +kernel : ∀ x ∈ lLa, (x + 20) ∈ scrL) x h) ((by decide +kernel : ∀ x ∈ lLa, varL.contains (x + 20) = false) x h) j
theorem C0_La_24 {x : Nat} (h : isLa x) (j : Nat) : C0 (x + 24) j = true := C0_list _ ((by decide +kernel : ∀ x ∈ lLa, (x + 24) ∈ scrL) x h) ((by decide +kernel : ∀ x ∈ lLa, varL.contains (x + 24) = false) x h) j
theorem C0_La_25 {x : Nat} (h : isLa x) (j : Nat) : C0 (x + 25) j = true := C0_list _ ((by decide +kernel : ∀ x ∈ lLa, (x + 25) ∈ scrL) x h) ((by decide +kernel : ∀ x ∈ lLa, varL.contains (x + 25) = false) x h) j
theorem C0_La_0f {x : Nat} (h : isLa x) {j : Nat} : C0 (x) j = false := C0_f ((by decide +kernel : ∀ x ∈ lLa, scrL.contains (x) = false) x h)
theorem C1_La_0f {x : Nat} (h : isLa x) {j : Nat} : C1 (x) j = false := C1_f ((by decide +kernel : ∀ x ∈ lLa, scrL.contains (x) = false) x h) ((by decide +kernel : ∀ x ∈ lLa, x < 71) x h)
theorem C0_La_1f {x : Nat} (h : isLa x) {j : Nat} : C0 (x + 1) j = false := C0_f ((by decide +kernel : ∀ x ∈ lLa, scrL.contains (x + 1) = false) x h)
theorem C1_La_1f {x : Nat} (h : isLa x) {j : Nat} : C1 (x + 1) j = false := C1_f ((by decide +kernel : ∀ x ∈ lLa, scrL.contains (x + 1) = false) x h) ((by decide +kernel : ∀ x ∈ lLa, x + 1 < 71) x h)
theorem C0_La_2f {x : Nat} (h : isLa x) {j : Nat} : C0 (x + 2) j = false := C0_f ((by decide +kernel : ∀ x ∈ lLa, scrL.contains (x + 2) = false) x h)
theorem C1_La_2f {x : Nat} (h : isLa x) {j : Nat} : C1 (x + 2) j = false := C1_f ((by decide +kernel : ∀ x ∈ lLa, scrL.contains (x + 2) = false) x h) ((by decide +kernel : ∀ x ∈ lLa, x + 2 < 71) x h)
theorem C0_La_3f {x : Nat} (h : isLa x) {j : Nat} : C0 (x + 3) j = false := C0_f ((by decide +kernel : ∀ x ∈ lLa, scrL.contains (x + 3) = false) x h)
theorem C1_La_3f {x : Nat} (h : isLa x) {j : Nat} : C1 (x + 3) j = false := C1_f ((by decide +kernel : ∀ x ∈ lLa, scrL.contains (x + 3) = false) x h) ((by decide +kernel : ∀ x ∈ lLa, x + 3 < 71) x h)
theorem C0_La_4f {x : Nat} (h : isLa x) {j : Nat} : C0 (x + 4) j = false := C0_f ((by decide +kernel : ∀ x ∈ lLa, scrL.contains (x + 4) = false) x h)
theorem C1_La_4f {x : Nat} (h : isLa x) {j : Nat} : C1 (x + 4) j = false := C1_f ((by decide +kernel : ∀ x ∈ lLa, scrL.contains (x + 4) = false) x h) ((by decide +kernel : ∀ x ∈ lLa, x + 4 < 71) x h)
theorem C0_La_5f {x : Nat} (h : isLa x) {j : Nat} : C0 (x + 5) j = false := C0_f ((by decide +kernel : ∀ x ∈ lLa, scrL.contains (x + 5) = false) x h)
theorem C1_La_5f {x : Nat} (h : isLa x) {j : Nat} : C1 (x + 5) j = false := C1_f ((by decide +kernel : ∀ x ∈ lLa, scrL.contains (x + 5) = false) x h) ((by decide +kernel : ∀ x ∈ lLa, x + 5 < 71) x h)
theorem C0_La_6f {x : Nat} (h : isLa x) {j : Nat} : C0 (x + 6) j = false := C0_f ((by decide +kernel : ∀ x ∈ lLa, scrL.contains (x + 6) = false) x h)
theorem C1_La_6f {x : Nat} (h : isLa x) {j : Nat} : C1 (x + 6) j = false := C1_f ((by decide +kernel : ∀ x ∈ lLa, scrL.contains (x + 6) = false) x h) ((by decide +kernel : ∀ x ∈ lLa, x + 6 < 71) x h)
theorem C0_La_7f {x : Nat} (h : isLa x) {j : Nat} : C0 (x + 7) j = false := C0_f ((by decide +kernel : ∀ x ∈ lLa, scrL.contains (x + 7) = false) x h)
theorem C1_La_7f {x : Nat} (h : isLa x) {j : Nat} : C1 (x + 7) j = false := C1_f ((by decide +kernel : ∀ x ∈ lLa, scrL.contains (x + 7) = false) x h) ((by decide +kernel : ∀ x ∈ lLa, x + 7 < 71) x h)
theorem C0_La_8f {x : Nat} (h : isLa x) {j : Nat} : C0 (x + 8) j = false := C0_f ((by decide +kernel : ∀ x ∈ lLa, scrL.contains (x + 8) = false) x h)
theorem C1_La_8f {x : Nat} (h : isLa x) {j : Nat} : C1 (x + 8) j = false := C1_f ((by decide +kernel : ∀ x ∈ lLa, scrL.contains (x + 8) = false) x h) ((by decide +kernel : ∀ x ∈ lLa, x + 8 < 71) x h)
theorem C0_La_9f {x : Nat} (h : isLa x) {j : Nat} : C0 (x + 9) j = false := C0_f ((by decide +kernel : ∀ x ∈ lLa, scrL.contains (x + 9) = false) x h)
theorem C1_La_9f {x : Nat} (h : isLa x) {j : Nat} : C1 (x + 9) j = false := C1_f ((by decide +kernel : ∀ x ∈ lLa, scrL.contains (x + 9) = false) x h) ((by decide +kernel : ∀ x ∈ lLa, x + 9 < 71) x h)
theorem C0_La_10f {x : Nat} (h : isLa x) {j : Nat} : C0 (x + 10) j = false := C0_f ((by decide +kernel : ∀ x ∈ lLa, scrL.contains (x + 10) = false) x h)
theorem C1_La_10f {x : Nat} (h : isLa x) {j : Nat} : C1 (x + 10) j = false := C1_f ((by decide +kernel : ∀ x ∈ lLa, scrL.contains (x + 10) = false) x h) ((by decide +kernel : ∀ x ∈ lLa, x + 10 < 71) x h)
theorem C0_La_13f {x : Nat} (h : isLa x) {j : Nat} : C0 (x + 13) j = false := C0_f ((by decide +kernel : ∀ x ∈ lLa, scrL.contains (x + 13) = false) x h)
theorem C1_La_13f {x : Nat} (h : isLa x) {j : Nat} : C1 (x + 13) j = false := C1_f ((by decide +kernel : ∀ x ∈ lLa, scrL.contains (x + 13) = false) x h) ((by decide +kernel : ∀ x ∈ lLa, x + 13 < 71) x h)
theorem C0_La_14f {x : Nat} (h : isLa x) {j : Nat} : C0 (x + 14) j = false := C0_f ((by decide +kernel : ∀ x ∈ lLa, scrL.contains (x + 14) = false) x h)
theorem C1_La_14f {x : Nat} (h : isLa x) {j : Nat} : C1 (x + 14) j = false := C1_f ((by decide +kernel : ∀ x ∈ lLa, scrL.contains (x + 14) = false) x h) ((by decide +kernel : ∀ x ∈ lLa, x + 14 < 71) x h)
theorem C0_La_17f {x : Nat} (h : isLa x) {j : Nat} : C0 (x + 17) j = false := C0_f ((by decide +kernel : ∀ x ∈ lLa, scrL.contains (x + 17) = false) x h)
theorem C1_La_17f {x : Nat} (h : isLa x) {j : Nat} : C1 (x + 17) j = false := C1_f ((by decide +kernel : ∀ x ∈ lLa, scrL.contains (x + 17) = false) x h) ((by decide +kernel : ∀ x ∈ lLa, x + 17 < 71) x h)
theorem C0_La_18f {x : Nat} (h : isLa x) {j : Nat} : C0 (x + 18) j = false := C0_f ((by decide +kernel : ∀ x ∈ lLa, scrL.contains (x + 18) = false) x h)
theorem C1_La_18f {x : Nat} (h : isLa x) {j : Nat} : C1 (x + 18) j = false := C1_f ((by decide +kernel : ∀ x ∈ lLa, scrL.contains (x + 18) = false) x h) ((by decide +kernel : ∀ x ∈ lLa, x + 18 < 71) x h)
theorem C0_La_21f {x : Nat} (h : isLa x) {j : Nat} : C0 (x + 21) j = false := C0_f ((by decide +kernel : ∀ x ∈ lLa, scrL.contains (x + 21) = false) x h)
theorem C1_La_21f {x : Nat} (h : isLa x) {j : Nat} : C1 (x + 21) j = false := C1_f ((by decide +kernel : ∀ x ∈ lLa, scrL.contains (x + 21) = false) x h) ((by decide +kernel : ∀ x ∈ lLa, x + 21 < 71) x h)
theorem C0_La_22f {x : Nat} (h : isLa x) {j : Nat} : C0 (x + 22) j = false := C0_f ((by decide +kernel : ∀ x ∈ lLa, scrL.contains (x + 22) = false) x h)
theorem C1_La_22f {x : Nat} (h : isLa x) {j : Nat} : C1 (x + 22) j = false := C1_f ((by decide +kernel : ∀ x ∈ lLa, scrL.contains (x + 22) = false) x h) ((by decide +kernel : ∀ x ∈ lLa, x + 22 < 71) x h)
theorem C0_Lw_3 {x : Nat} (h : isLw x) (j : Nat) : C0 (x + 3) j = true := C0_list _ ((by decide +kernel : ∀ x ∈ lLw, (x + 3) ∈ scrL) x h) ((by decide +kernel : ∀ x ∈ lLw, varL.contains (x + 3) = false) x h) j
theorem C0_Lw_0f {x : Nat} (h : isLw x) {j : Nat} : C0 (x) j = false := C0_f ((by decide +kernel : ∀ x ∈ lLw, scrL.contains (x) = false) x h)
theorem C1_Lw_0f {x : Nat} (h : isLw x) {j : Nat} : C1 (x) j = false := C1_f ((by decide +kernel : ∀ x ∈ lLw, scrL.contains (x) = false) x h) ((by decide +kernel : ∀ x ∈ lLw, x < 71) x h)
theorem C0_Lw_1f {x : Nat} (h : isLw x) {j : Nat} : C0 (x + 1) j = false := C0_f ((by decide +kernel : ∀ x ∈ lLw, scrL.contains (x + 1) = false) x h)
theorem C1_Lw_1f {x : Nat} (h : isLw x) {j : Nat} : C1 (x + 1) j = false := C1_f ((by decide +kernel : ∀ x ∈ lLw, scrL.contains (x + 1) = false) x h) ((by decide +kernel : ∀ x ∈ lLw, x + 1 < 71) x h)
theorem md_upe {x x' y : Int32} {f : Nat} (h : ¬ y < x) (hy : y.toInt < 2147483647) (e : x' = x + 1) (hm : (y.toInt + 1 - x.toInt).toNat < f + 1) : (y.toInt + 1 - x'.toInt).toNat < f := by
  have h1 : x.toInt ≤ y.toInt := by rw [i_lt] at h; omega
  have h2 : (x + 1).toInt = x.toInt + 1 := by
    have h3 := i_b x
    rw [Int32.toInt_add]
    have e : (1 : Int32).toInt = 1 := by decide
    rw [e, Int.bmod_eq_of_le (by omega) (by omega)]
  rw [e, h2]
  omega
theorem nn_up {x x' y : Int32} (h : ¬ y ≤ x) (e : x' = x + 1) (h0 : ¬ x < 0) : ¬ x' < 0 := by
  have h1 : x < y := by rw [i_lt]; rw [i_le] at h; omega
  have h2 := i_add1 h1
  rw [i_lt, Int32.toInt_zero] at h0 ⊢
  rw [e, h2]; omega
theorem nn_upe {x x' y : Int32} (h : ¬ y < x) (hy : y.toInt < 2147483647) (e : x' = x + 1) (h0 : ¬ x < 0) : ¬ x' < 0 := by
  have h1 : x.toInt ≤ y.toInt := by rw [i_lt] at h; omega
  have h2 : (x + 1).toInt = x.toInt + 1 := by
    have h3 := i_b x
    rw [Int32.toInt_add]
    have e : (1 : Int32).toInt = 1 := by decide
    rw [e, Int.bmod_eq_of_le (by omega) (by omega)]
  rw [i_lt, Int32.toInt_zero] at h0 ⊢
  rw [e, h2]; omega
theorem md_dn8 {x x' : Int32} {f : Nat} (h : ¬ x < 0) (e : x' = x + (-8)) (hm : (x.toInt + 8).toNat < f + 1) : (x'.toInt + 8).toNat < f := by
  have h1 := mt i_lt.mpr h
  rw [Int32.toInt_zero] at h1
  have h3 := i_b x
  have h2 : (x + (-8)).toInt = x.toInt - 8 := by
    rw [Int32.toInt_add]
    have e : (-8 : Int32).toInt = -8 := by decide
    rw [e, Int.bmod_eq_of_le (by omega) (by omega)]
    omega
  rw [e, h2]
  omega
