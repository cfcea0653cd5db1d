/-! methods as functions: loops, steps -/
def lpK {α : Type} (body : α → α) (bot : α) : Nat → α
  | 0 => bot
  | n + 1 => body (lpK body bot n)
def FU : Nat := 8589934592
def nmM {τ : Type} (v : gM) (f : gM → Option τ) : Option τ := f v
def nmL {τ : Type} (v : gL) (f : gL → Option τ) : Option τ := f v
def nmI {τ : Type} (v : Int32) (f : Int32 → Option τ) : Option τ := f v
def nmJ {τ : Type} (v : Int64) (f : Int64 → Option τ) : Option τ := f v
def bI {α β : Type} (o : Option α) (f : α → Option β) : Option β := match o with
  | some a => f a
  | none => none
theorem bnd {α β : Type} {o : Option α} {f : α → Option β} {r : β} (h : bI o f = some r) : ∃ q, o = some q ∧ f q = some r := by
  cases o with
  | none => cases h
  | some a => exact ⟨a, rfl, h⟩
def bI2 {α β γ : Type} (o : Option (α × β)) (f : α → β → Option γ) : Option γ := match o with
  | some (a, b) => f a b
  | none => none
def bI3 {α β γ δ : Type} (o : Option (α × β × γ)) (f : α → β → γ → Option δ) : Option δ := match o with
  | some (a, b, c) => f a b c
  | none => none
def bI4 {α β γ δ ε : Type} (o : Option (α × β × γ × δ)) (f : α → β → γ → δ → Option ε) : Option ε := match o with
  | some (a, b, c, d) => f a b c d
  | none => none
theorem bnd2 {α β γ : Type} {o : Option (α × β)} {f : α → β → Option γ} {r : γ} (h : bI2 o f = some r) : ∃ a b, o = some (a, b) ∧ f a b = some r := by
  cases o with
  | none => cases h
  | some q => exact ⟨q.1, q.2, rfl, h⟩
theorem bnd3 {α β γ δ : Type} {o : Option (α × β × γ)} {f : α → β → γ → Option δ} {r : δ} (h : bI3 o f = some r) : ∃ a b c, o = some (a, b, c) ∧ f a b c = some r := by
  cases o with
  | none => cases h
  | some q => exact ⟨q.1, q.2.1, q.2.2, rfl, h⟩
theorem bnd4 {α β γ δ ε : Type} {o : Option (α × β × γ × δ)} {f : α → β → γ → δ → Option ε} {r : ε} (h : bI4 o f = some r) : ∃ a b c d, o = some (a, b, c, d) ∧ f a b c d = some r := by
  cases o with
  | none => cases h
  | some q => exact ⟨q.1, q.2.1, q.2.2.1, q.2.2.2, rfl, h⟩
theorem itp {τ : Type} {c : Prop} [Decidable c] {a b : Option τ} {r : τ} (h : (if c then a else b) = some r) (hc : c) : a = some r := by rw [if_pos hc] at h; exact h
theorem itn {τ : Type} {c : Prop} [Decidable c] {a b : Option τ} {r : τ} (h : (if c then a else b) = some r) (hc : ¬ c) : b = some r := by rw [if_neg hc] at h; exact h
theorem gdn {τ : Type} {c : Prop} [Decidable c] {b : Option τ} {r : τ} (h : (if c then none else b) = some r) : ¬ c ∧ b = some r := by
  by_cases hc : c
  · rw [if_pos hc] at h; cases h
  · rw [if_neg hc] at h; exact ⟨hc, h⟩
theorem gdp {τ : Type} {c : Prop} [Decidable c] {b : Option τ} {r : τ} (h : (if c then b else none) = some r) : c ∧ b = some r := by
  by_cases hc : c
  · rw [if_pos hc] at h; exact ⟨hc, h⟩
  · rw [if_neg hc] at h; cases h
theorem ltI {τ : Type} {v : Int32} {f : Int32 → Option τ} {r : τ} (h : nmI v f = some r) : ∃ x, x = v ∧ f x = some r := ⟨v, rfl, h⟩
theorem rfA_79 (ld : Nat) {i : Int32} (h : vp_in i 40) : isSt (80 + 7 * i.toNatClampNeg) ∧ rf ld 79 i.toNatClampNeg = some (80 + 7 * i.toNatClampNeg) := by
  have hi : i.toNatClampNeg < 40 := Nat.not_le.mp fun q => h (Or.inr q)
  exact (by decide +kernel : ∀ j, j < 40 → (80 + 7 * j) ∈ lSt ∧ rfd ((rft.getD 79 []).getD j 0) = some (80 + 7 * j)) _ hi
theorem rfA_361 (ld : Nat) {i : Int32} (h : vp_in i 3) : isSt (362 + 7 * i.toNatClampNeg) ∧ rf ld 361 i.toNatClampNeg = some (362 + 7 * i.toNatClampNeg) := by
  have hi : i.toNatClampNeg < 3 := Nat.not_le.mp fun q => h (Or.inr q)
  exact (by decide +kernel : ∀ j, j < 3 → (362 + 7 * j) ∈ lSt ∧ rfd ((rft.getD 361 []).getD j 0) = some (362 + 7 * j)) _ hi
theorem rf_sw {ld : Nat} (h : isLa ld) : uR (uR (rf ld) 0 2 (some (50 - ld))) 0 3 (some ld) = rf (50 - ld) := by
  have hl : 50 - (50 - ld) = ld := (by decide +kernel : ∀ x ∈ lLa, 50 - (50 - x) = x) ld h
  funext c j
  rw [uR_at, uR_at]
  unfold rf
  by_cases h3 : c = 0 ∧ j = 3
  · rw [if_pos h3, if_neg (fun q => by omega), if_pos h3, hl]
  · rw [if_neg h3]
    by_cases h2 : c = 0 ∧ j = 2
    · rw [if_pos h2, if_pos h2]
    · rw [if_neg h2, if_neg h2, if_neg h3, if_neg h2, if_neg h3]
section RULES9
variable {l : Launch} {Y : gY} {E : Nat × Nat × Nat} {n k z pc pc1 : Nat} {lv lv' : List (Nat × Value)} {st : List Value} {M : gM} {L : gL} {R : gR} {Q : Option Value → gM → gL → gR → Prop} {τ : Type} {r : τ}
theorem Wp.eqRR {R' : gR} (h : R = R') (kk : Wp l Y E n k z pc lv st M L R' Q) : Wp l Y E n k z pc lv st M L R Q := by rw [h]; exact kk
theorem Wp.lM {v : gM} {f : gM → Option τ} (h : nmM v f = some r) (kk : ∀ M1, f M1 = some r → Wp l Y E n k z pc lv st M1 L R Q) : Wp l Y E n k z pc lv st v L R Q := kk v h
theorem Wp.lL {v : gL} {f : gL → Option τ} (h : nmL v f = some r) (kk : ∀ L1, f L1 = some r → Wp l Y E n k z pc lv st M L1 R Q) : Wp l Y E n k z pc lv st M v R Q := kk v h
theorem Wp.lI {v : Int32} {f : Int32 → Option τ} (h : nmI v f = some r) (kk : ∀ x, f x = some r → Wp l Y E n k z pc lv (.int x :: st) M L R Q) : Wp l Y E n k z pc lv (.int v :: st) M L R Q := kk v h
theorem Wp.lJ {v : Int64} {f : Int64 → Option τ} (h : nmJ v f = some r) (kk : ∀ x, f x = some r → Wp l Y E n k z pc lv (.long x :: st) M L R Q) : Wp l Y E n k z pc lv (.long v :: st) M L R Q := kk v h
end RULES9
