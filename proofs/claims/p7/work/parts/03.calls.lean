/-! making cells, calls -/
abbrev psh (r : Option Value) (st : List Value) : List Value := match r with
  | some v => v :: st
  | none => st
theorem gw_good {Y Y' : gY} (h : Cond.code Y'.1 Y'.2.1 Y'.2.2.1 Y'.2.2.2.1 ∈ gtb) : GoodIn (gW Y) (gW Y') := by
  have e : ∀ w ∈ gtb, GoodIn (gW Y) [w] := fun w hw v hv => by
    rw [List.mem_singleton.mp hv]
    exact ⟨List.mem_cons_of_mem _ hw, good_of_word (List.mem_filter.mp hw).2⟩
  intro w hw
  rcases List.mem_cons.mp hw with rfl | hw
  · exact e _ h _ (List.mem_singleton.mpr rfl)
  · exact e _ hw _ (List.mem_singleton.mpr rfl)
theorem sz_of {p : Program} {l : Launch} {e : Env} {R0 : Room} {s : State} {m : MethodId} {args : Array Value} {below : List Frame} {meth : Method} {c : Code} {T : State} {locs : List Loc} {k z b n : Nat} {D : va_G} {cA : Nat → ClassId} {M : gM} {L : gL} {R : gR}
    (X : Stand p l e R0 s m args below meth c T locs k z) (hP : va_P D cls (Wd cA b n M L R) T.heap) (h0 : s.heap.size + k = b + n) (hb : b ≤ s.heap.size) (hS : va_S (fun q => b ≤ q) s.heap T.heap locs) : T.heap.size = b + n := by
  have h1 := X.heapSize
  rcases Nat.eq_zero_or_pos n with hn | hn
  · subst hn
    have h2 := hS.1
    omega
  · have h2 := (hP (n - 1) _ (wd_at (by omega))).lt
    have h3 : b + (n - 1) < T.heap.size := h2
    omega
section RULES3
variable {l : Launch} {Y : gY} {E : Nat × Nat × Nat} {n k z pc pc1 : Nat} {lv lv' : List (Nat × Value)} {st : List Value} {M : gM} {L : gL} {R : gR} {Q : Option Value → gM → gL → gR → Prop}
theorem gK_arr {D : va_G} {cA : Nat → ClassId} {s : State} (hK : gK D cA s) {j : Nat} {ty : FieldType} {cB : ClassId} (hj : (tys cA)[j]? = some (cA j, ty)) {K0 : List (ClassId × FieldType)} (h : va_K D cls (K0 ++ [(cB, ty)]) s) : cB = cA j := by
  have h1 := (hK.1.2 j _ hj).2
  have h2 := (h.2 K0.length (cB, ty) (by simp)).2
  cases ty with
  | object C =>
    obtain ⟨_, _, -, -, -, e1⟩ := h1
    obtain ⟨_, _, -, -, -, e2⟩ := h2
    exact Option.some.inj (e2.symm.trans e1)
  | _ => exact Option.some.inj (h2.symm.trans h1)
theorem wd_q {D : va_G} {cA : Nat → ClassId} {b n q : Nat} {M : gM} {L : gL} {R : gR} {x : va_E} {H : Heap} {A0 : Nat} (hP : va_P D cls (Wd cA b n M L R ++ [(q, x)]) H) (hD : va_D (fun q => b ≤ q) (Wd cA b n M L R ++ [(q, x)])) (hle : H.size ≤ A0) (h0 : A0 = b + n + 1) : q = b + n := by
  have hlen : (Wd cA b n M L R).length = n := by simp [Wd]
  have e1 : (Wd cA b n M L R ++ [(q, x)])[n]? = some (q, x) := by
    rw [List.getElem?_append_right (by omega), hlen]; simp
  have h1 := (hP n _ e1).lt
  have h1' : q < H.size := h1
  have h2 : b ≤ q := hD.2 n _ e1
  rcases Nat.lt_or_ge q (b + n) with h | h
  · exfalso
    have e2 : (Wd cA b n M L R ++ [(q, x)])[q - b]? = some (b + (q - b), ent cA b M L R (q - b)) := by
      rw [List.getElem?_append_left (by omega), wd_at (by omega)]
    have := hD.1 (q - b) n _ _ e2 e1 (by show b + (q - b) = q; omega)
    omega
  · omega
theorem g_new {ci idx N : Nat} {C : String} {T : u_T} {ty : Nat → FieldType} (hd : decode Y.2.1 pc = .ok (.new idx, 3)) (hp : pc + 3 = pc1) (hc : cls[ci]? = some (C, T, N)) (hin : ∀ w ∈ u_ws C T N, w ∈ gtb) (hty : ∀ k, k < N → parseFieldDescriptor (T k).2.2.1 = some (ty k))
    (hdf : ∀ j, j < N → defaultValue (ty j) = vp_V ((fks ci).map (fun q => match q.1 with | 0 => .int 0 | 2 => .int 0 | _ => .null)) j) (hw1 : Cond.classLink Y.1.cls idx C ∈ gtb) (hw2 : Cond.instantiable C N ∈ gtb) (hw3 : Cond.initialized C ∈ gtb) (hs : SH n = (0, ci)) (hz1 : ∀ i, M n i = 0) (hz2 : ∀ i, R n i = none)
    (h1 : k + 1 ≤ E.1) (h2 : z + N ≤ E.2.1) (kk : Wp l Y E (n + 1) (k + 1) (z + N) pc1 lv (.ref n :: st) M L R Q) : Wp l Y E n k z pc lv st M L R Q := by
  subst hp
  intro b D cA p e s m args below meth c H locs ls CX hz hP hS hl
  have kk := fun H1 locs1 hP1 hS1 => kk b D cA p e s m args below meth c H1 locs1 ls CX (by omega) hP1 hS1 hl
  obtain ⟨hx, hb, hr, hlk, hml, hown, hnm, hts, hK, hbs, hO⟩ := CX
  refine va_new (D := D) hx hb hts (fun w hw => List.mem_cons_of_mem _ (hin w hw)) ty hty hown (hts _ (List.mem_cons_of_mem _ hw1)) (hts _ (List.mem_cons_of_mem _ hw2)) (hts _ (List.mem_cons_of_mem _ hw3)) hK.1 hP wd_D hS (fun q hq => by show b ≤ q; omega) hc hdf h1 h2 hd (fun q H1 hP1 hD1 hS1 => ?_)
  intro T0 hT0 X0
  have hq : q = b + n := wd_q hP1 hD1 (by rw [← hT0]; exact X0.heapSize) (by omega)
  subst hq
  have e : (fks ci).map (fun q => match q.1 with | 0 => Value.int 0 | 2 => Value.int 0 | _ => Value.null) = (fks ci).map (fvl b M R n) := by
    apply List.map_congr_left
    intro q _
    unfold fvl
    rw [hz1, hz2]
    obtain ⟨kd, j⟩ := q
    rcases kd with _ | _ | _ | kd <;> rfl
  rw [e, ← ent_obj (L := L) (cA := cA) hs, ← wd_snoc] at hP1
  exact kk H1 locs hP1 hS1 T0 hT0 X0
theorem g_newA {N : Nat} {at0 : ArrayType} {ty : FieldType} {x : Int32} (j : Nat) (hd : decode Y.2.1 pc = .ok (.newarray at0, 2)) (hp : pc + 2 = pc1) (hty : newarray.typeOf at0 = ty) (hj : ∀ cA : Nat → ClassId, (tys cA)[j]? = some (cA j, ty)) (hw : Cond.arrayClass ty ∈ gtb) (a0 : vp_A) (ha : ∀ cA : ClassId, vp_cell cA a0 = arrV cA N (fun _ => defaultValue ty)) (he : ∀ cA b, ent cA b M L R n = .inl (cA j, a0))
    (hn : ¬ x < 0) (hN : x.toNatClampNeg = N) (hby : N * componentBytes ty ≤ 536870912) (h1 : k + 1 ≤ E.1) (h2 : z + N ≤ E.2.1) (kk : Wp l Y E (n + 1) (k + 1) (z + N) pc1 lv (.ref n :: st) M L R Q) : Wp l Y E n k z pc lv (.int x :: st) M L R Q := by
  subst hp
  intro b D cA p e s m args below meth c H locs ls CX hz hP hS hl
  have kk := fun H1 locs1 hP1 hS1 => kk b D cA p e s m args below meth c H1 locs1 ls CX (by omega) hP1 hS1 hl
  obtain ⟨hx, hb, hr, hlk, hml, hown, hnm, hts, hK, hbs, hO⟩ := CX
  refine va_newa (D := D) hx hb (by rw [hty]; exact hts _ (List.mem_cons_of_mem _ hw)) hty hK.1 hP wd_D hS (fun q hq => by show b ≤ q; omega) ha hn hN hby h1 h2 hd (fun q cB H1 hK1 hP1 hD1 hS1 => ?_)
  intro T0 hT0 X0
  have hq : q = b + n := wd_q hP1 hD1 (by rw [← hT0]; exact X0.heapSize) (by omega)
  subst hq
  rw [gK_arr hK (hj cA) hK1, ← he cA b, ← wd_snoc] at hP1
  exact kk H1 locs hP1 hS1 T0 hT0 X0
theorem g_newI {N : Nat} {x : Int32} (hd : decode Y.2.1 pc = .ok (.newarray .int, 2)) (hp : pc + 2 = pc1) (hw : Cond.arrayClass .int ∈ gtb) (hs : SH n = (1, N)) (hz : ∀ i, M n i = 0) (hn : ¬ x < 0) (hN : x.toNatClampNeg = N) (hby : N * 4 ≤ 536870912) (h1 : k + 1 ≤ E.1) (h2 : z + N ≤ E.2.1) (kk : Wp l Y E (n + 1) (k + 1) (z + N) pc1 lv (.ref n :: st) M L R Q) : Wp l Y E n k z pc lv (.int x :: st) M L R Q :=
  g_newA 0 hd hp rfl (fun _ => rfl) hw (N, .inl (fun _ => 0)) (fun _ => rfl) (fun cA b => by rw [ent_1 hs, show M n = (fun _ => 0) from funext hz]) hn hN hby h1 h2 kk
theorem g_newB {N : Nat} {x : Int32} (hd : decode Y.2.1 pc = .ok (.newarray .byte, 2)) (hp : pc + 2 = pc1) (hw : Cond.arrayClass .byte ∈ gtb) (hs : SH n = (2, N)) (hz : ∀ i, M n i = 0) (hn : ¬ x < 0) (hN : x.toNatClampNeg = N) (hby : N * 1 ≤ 536870912) (h1 : k + 1 ≤ E.1) (h2 : z + N ≤ E.2.1) (kk : Wp l Y E (n + 1) (k + 1) (z + N) pc1 lv (.ref n :: st) M L R Q) : Wp l Y E n k z pc lv (.int x :: st) M L R Q :=
  g_newA 1 hd hp rfl (fun _ => rfl) hw (N, .inl (fun _ => 0)) (fun _ => rfl) (fun cA b => by rw [ent_2 hs, show M n = (fun _ => 0) from funext hz]) hn hN hby h1 h2 kk
theorem g_newZ {N : Nat} {x : Int32} (hd : decode Y.2.1 pc = .ok (.newarray .boolean, 2)) (hp : pc + 2 = pc1) (hw : Cond.arrayClass .boolean ∈ gtb) (hs : SH n = (3, N)) (hz : ∀ i, M n i = 0) (hn : ¬ x < 0) (hN : x.toNatClampNeg = N) (hby : N * 1 ≤ 536870912) (h1 : k + 1 ≤ E.1) (h2 : z + N ≤ E.2.1) (kk : Wp l Y E (n + 1) (k + 1) (z + N) pc1 lv (.ref n :: st) M L R Q) : Wp l Y E n k z pc lv (.int x :: st) M L R Q :=
  g_newA 2 hd hp rfl (fun _ => rfl) hw (N, .inl (fun _ => 0)) (fun _ => rfl) (fun cA b => by rw [ent_3 hs, show M n = (fun _ => 0) from funext hz]) hn hN hby h1 h2 kk
theorem g_newJ {N : Nat} {x : Int32} (hd : decode Y.2.1 pc = .ok (.newarray .long, 2)) (hp : pc + 2 = pc1) (hw : Cond.arrayClass .long ∈ gtb) (hs : SH n = (4, N)) (hz : ∀ i, L n i = 0) (hn : ¬ x < 0) (hN : x.toNatClampNeg = N) (hby : N * 8 ≤ 536870912) (h1 : k + 1 ≤ E.1) (h2 : z + N ≤ E.2.1) (kk : Wp l Y E (n + 1) (k + 1) (z + N) pc1 lv (.ref n :: st) M L R Q) : Wp l Y E n k z pc lv (.int x :: st) M L R Q :=
  g_newA 3 hd hp rfl (fun _ => rfl) hw (N, .inr (.inl (fun _ => 0))) (fun _ => rfl) (fun cA b => by rw [ent_4 hs, show L n = (fun _ => 0) from funext hz]) hn hN hby h1 h2 kk
theorem g_newR {idx N : Nat} {x : Int32} (hd : decode Y.2.1 pc = .ok (.anewarray idx, 3)) (hp : pc + 3 = pc1) (hw1 : Cond.classLink Y.1.cls idx "CookedLaw$State" ∈ gtb) (hs : SH n = (5, N)) (hz0 : ∀ i, R n i = none) (hn : ¬ x < 0) (hN : x.toNatClampNeg = N) (hby : N * 4 ≤ 536870912) (h1 : k + 1 ≤ E.1) (h2 : z + N ≤ E.2.1) (kk : Wp l Y E (n + 1) (k + 1) (z + N) pc1 lv (.ref n :: st) M L R Q) : Wp l Y E n k z pc lv (.int x :: st) M L R Q := by
  subst hp
  intro b D cA p e s m args below meth c H locs ls CX hz hP hS hl
  have kk := fun H1 locs1 hP1 hS1 => kk b D cA p e s m args below meth c H1 locs1 ls CX (by omega) hP1 hS1 hl
  obtain ⟨hx, hb, hr, hlk, hml, hown, hnm, hts, hK, hbs, hO⟩ := CX
  have hov : va_AO "CookedLaw$State" s := hK.2.2
  refine va_newq (D := D) hx hb hown (hts _ (List.mem_cons_of_mem _ hw1)) hov hK.1 hP wd_D hS (fun q hq => by show b ≤ q; omega) hn hN hby h1 h2 hd (fun q cB H1 hK1 hP1 hD1 hS1 => ?_)
  intro T0 hT0 X0
  have hq : q = b + n := wd_q hP1 hD1 (by rw [← hT0]; exact X0.heapSize) (by omega)
  subst hq
  have e : (fun _ : Nat => (none : Option Nat)) = fun j => (R n j).map (fun x => b + x) := by
    funext j; rw [hz0]; rfl
  rw [gK_arr (j := 4) hK rfl hK1, e, ← ent_5 (cA := cA) (b := b) (M := M) (L := L) hs, ← wd_snoc] at hP1
  exact kk H1 locs hP1 hS1 T0 hT0 X0
theorem cats_cv (b : Nat) (st : List Value) : ((st.map (cv b)).map fun v => v.category).sum = (st.map fun v => v.category).sum := by
  rw [List.map_map]
  congr 1
  apply List.map_congr_left
  intro v _
  exact cv_cat b v
theorem g_objInit {a idx : Nat} (hd : decode Y.2.1 pc = .ok (.invokespecial idx, 3)) (hp : pc + 3 = pc1) (hw1 : Cond.methodLink Y.1.cls idx Lib.objectInit ∈ gtb) (hw2 : Cond.instanceMethod Lib.objectInit ∈ gtb) (hw3 : Cond.code Lib.objectInit ⟨#[0xb1]⟩ 1 none ∈ gtb) (hh : 1 ≤ Y.2.2.2.2) (hcat : (st.map fun v => v.category).sum ≤ 8) (kk : Wp l Y E n k z pc1 lv st M L R Q) : Wp l Y E n k z pc lv (.ref a :: st) M L R Q := by
  subst hp
  intro b D cA p e s m args below meth c H locs ls CX hz hP hS hl
  have kk := kk b D cA p e s m args below meth c H locs ls CX hz hP hS hl
  obtain ⟨hx, hb, hr, hlk, hml, hown, hnm, hts, hK, hbs, hO⟩ := CX
  refine W.objInit hx hb hown (hts _ (List.mem_cons_of_mem _ hw1)) (hts _ (List.mem_cons_of_mem _ hw2)) (hts _ (List.mem_cons_of_mem _ hw3)) rfl (by rw [hml]; exact hl.1) rfl hd hh ?_ kk
  rw [cats_cv]
  show 2 * 0 + _ + 12 ≤ 40 * _
  omega
theorem g_mmin {idx : Nat} {x y : Int32} (hd : decode Y.2.1 pc = .ok (.invokestatic idx, 3)) (hp : pc + 3 = pc1) (hw : Cond.methodLink Y.1.cls idx Lib.Math.min.name ∈ gtb ∧ Cond.static Lib.Math.min.name ∈ gtb ∧ Cond.initialized "java/lang/Math" ∈ gtb ∧ Cond.code Lib.Math.min.name Lib.Math.min.code 2 (some .int) ∈ gtb) (hh : 1 ≤ Y.2.2.2.2) (hE : k ≤ E.1 ∧ z ≤ E.2.1) (hcat : (st.map fun v => v.category).sum ≤ 8) (kk : Wp l Y E n k z pc1 lv (.int (if y < x then y else x) :: st) M L R Q) : Wp l Y E n k z pc lv (.int y :: .int x :: st) M L R Q := by
  subst hp
  intro b D cA p e s m args below meth c H locs ls CX hz hP hS hl
  have kk := kk b D cA p e s m args below meth c H locs ls CX hz hP hS hl
  obtain ⟨hx, hb, hr, hlk, hml, hown, hnm, hts, hK, hbs, hO⟩ := CX
  refine va_mmin hx hb (by rw [hml]; exact hl.1.symm) hown (hts _ (List.mem_cons_of_mem _ hw.1)) (hts _ (List.mem_cons_of_mem _ hw.2.1)) (hts _ (List.mem_cons_of_mem _ hw.2.2.1)) (hts _ (List.mem_cons_of_mem _ hw.2.2.2)) hh ?_ hE.1 hE.2 hd kk
  rw [cats_cv]
  show _ + 13 ≤ 40 * _
  omega
theorem g_mmax {idx : Nat} {x y : Int32} (hd : decode Y.2.1 pc = .ok (.invokestatic idx, 3)) (hp : pc + 3 = pc1) (hw : Cond.methodLink Y.1.cls idx Lib.Math.max.name ∈ gtb ∧ Cond.static Lib.Math.max.name ∈ gtb ∧ Cond.initialized "java/lang/Math" ∈ gtb ∧ Cond.code Lib.Math.max.name Lib.Math.max.code 2 (some .int) ∈ gtb) (hh : 1 ≤ Y.2.2.2.2) (hE : k ≤ E.1 ∧ z ≤ E.2.1) (hcat : (st.map fun v => v.category).sum ≤ 8) (kk : Wp l Y E n k z pc1 lv (.int (if x < y then y else x) :: st) M L R Q) : Wp l Y E n k z pc lv (.int y :: .int x :: st) M L R Q := by
  subst hp
  intro b D cA p e s m args below meth c H locs ls CX hz hP hS hl
  have kk := kk b D cA p e s m args below meth c H locs ls CX hz hP hS hl
  obtain ⟨hx, hb, hr, hlk, hml, hown, hnm, hts, hK, hbs, hO⟩ := CX
  refine va_mmax hx hb (by rw [hml]; exact hl.1.symm) hown (hts _ (List.mem_cons_of_mem _ hw.1)) (hts _ (List.mem_cons_of_mem _ hw.2.1)) (hts _ (List.mem_cons_of_mem _ hw.2.2.1)) (hts _ (List.mem_cons_of_mem _ hw.2.2.2)) hh ?_ hE.1 hE.2 hd kk
  rw [cats_cv]
  show _ + 13 ≤ 40 * _
  omega
theorem g_mabs {idx : Nat} {x : Int32} (hd : decode Y.2.1 pc = .ok (.invokestatic idx, 3)) (hp : pc + 3 = pc1) (hw : Cond.methodLink Y.1.cls idx Lib.Math.abs.name ∈ gtb ∧ Cond.static Lib.Math.abs.name ∈ gtb ∧ Cond.initialized "java/lang/Math" ∈ gtb ∧ Cond.code Lib.Math.abs.name Lib.Math.abs.code 1 (some .int) ∈ gtb) (hh : 1 ≤ Y.2.2.2.2) (hE : k ≤ E.1 ∧ z ≤ E.2.1) (hcat : (st.map fun v => v.category).sum ≤ 8) (kk : Wp l Y E n k z pc1 lv (.int (if 0 ≤ x then x else 0 - x) :: st) M L R Q) : Wp l Y E n k z pc lv (.int x :: st) M L R Q := by
  subst hp
  intro b D cA p e s m args below meth c H locs ls CX hz hP hS hl
  have kk := kk b D cA p e s m args below meth c H locs ls CX hz hP hS hl
  obtain ⟨hx, hb, hr, hlk, hml, hown, hnm, hts, hK, hbs, hO⟩ := CX
  refine va_mabs hx hb (by rw [hml]; exact hl.1.symm) hown (hts _ (List.mem_cons_of_mem _ hw.1)) (hts _ (List.mem_cons_of_mem _ hw.2.1)) (hts _ (List.mem_cons_of_mem _ hw.2.2.1)) (hts _ (List.mem_cons_of_mem _ hw.2.2.2)) hh ?_ hE.1 hE.2 hd kk
  rw [cats_cv]
  show _ + 13 ≤ 40 * _
  omega
/-- behind a call -/
theorem w_after {p : Program} {e : Env} {R0 : Room} {s : State} {m : MethodId} {args : Array Value} {below : List Frame} {meth : Method} {c : Code} {H : Heap} {locs : List Loc} {mc ms n2 b : Nat} {ls : Array Slot} {st0 rest : List Value} {D : va_G} {cA : Nat → ClassId} {a : Array Value} {Q2 : Option Value → gM → gL → gR → Prop} {Z : State → Prop}
    (hr : va_Run p l e R0 s m args below meth c H locs k z mc ms (F0 m pc ls st0) rest (gQ b D cA n2 Q2 a) (fun q => b ≤ q)) (hS : va_S (fun q => b ≤ q) s.heap H locs)
    (kk : ∀ (r : Option Value) (M' : gM) (L' : gL) (R' : gR) (H1 : Heap) (locs1 : List Loc), Q2 r M' L' R' → va_P D cls (Wd cA b n2 M' L' R') H1 → va_S (fun q => b ≤ q) s.heap H1 locs1 → W p l e R0 s m args below meth c H1 locs1 (k + mc) (z + ms) Z (F0 m (pc + 3) ls ((r.map (cv b)).toList ++ rest))) : W p l e R0 s m args below meth c H locs k z Z (F0 m pc ls st0) := by
  intro T hT X
  obtain ⟨v, st₀, t, T', L1, h0, X', hL, e1, e2, ⟨⟨r, M', L', R', hv, hq, hP1⟩, hz, hk⟩, hgo⟩ := hr T hT X
  cases hv
  rw [h0] at hz hk
  obtain ⟨t2, a1, b1⟩ := kk r M' L' R' T'.heap (locs ++ L1) hq (by rw [e1]; exact hP1)
    ⟨Nat.le_trans hS.1 (by rw [e1]; exact hz), fun q h1 h2 => by rw [e1, hk q (Nat.lt_of_lt_of_le h1 hS.1) h2]; exact hS.2.1 q h1 h2, fun q hq => by
      rcases List.mem_append.mp hq with h | h
      · exact hS.2.2 q h
      · exact hL q h⟩ T' rfl X'
  exact ⟨t2, hgo t2 a1, b1⟩
theorem psh_cv (b : Nat) (r : Option Value) (rest : List Value) : (r.map (cv b)).toList ++ rest.map (cv b) = (psh r rest).map (cv b) := by
  cases r <;> rfl
theorem gP_blind {b n : Nat} {D : va_G} {cA : Nat → ClassId} {args : List Value} : FrameBlind (gP b n D cA M L R args) := by
  intro a U g mk q
  obtain ⟨q1, q2, q3, q4, q5⟩ := q
  exact ⟨q1, q2, q3, gK.same (u := U) (U := U.calling g mk a) rfl q4, gO.same (u := U) (U := U.calling g mk a) rfl q5⟩
def mOk (own : String) (idx np : Nat) (Y' : gY) : Prop := (Cond.methodLink own idx Y'.1 ∈ gtb ∨ ∃ host, Cond.methodLinkNest own idx Y'.1 host ∈ tables_1) ∧ Cond.code Y'.1 Y'.2.1 Y'.2.2.1 Y'.2.2.2.1 ∈ gtb ∧ Cond.initialized Y'.1.cls ∈ gtb ∧ Y'.1.cls ≠ "java/lang/invoke/MethodHandle" ∧ Y'.1.cls ≠ "java/lang/invoke/VarHandle" ∧ (parseMethodDescriptor Y'.1.desc).map (fun d => d.parameters.length) = some np
theorem w_callS {p : Program} {e : Env} {R0 : Room} {s : State} {m : MethodId} {args : Array Value} {below : List Frame} {meth : Method} {c : Code} {H : Heap} {locs : List Loc} {b idx np nL : Nat} {ls : Array Slot} {As rest st0 : List Value} {D : va_G} {cA : Nat → ClassId} {Q2 : Option Value → gM → gL → gR → Prop} {Z : State → Prop} {Y' : gY} {E' : Nat × Nat × Nat} {own : String} {cc : ByteArray} {Ts : List Cond}
    (hx : p.tables.exec = Jvm.exec) (hb : c.code = cc) (hml : c.maxLocals = nL) (hown : s.vm.findClass own = some m.cls) (hts : ∀ w ∈ Ts, w.before args s = true) (hsub : ∀ w ∈ gtb, w ∈ Ts) (hK : gK D cA s) (hgood : GoodIn Ts (gW Y')) (hbs : b ≤ s.heap.size) (hO : gO b s s.heap)
    (hm : mOk own idx np Y') (hst : Cond.static Y'.1 ∈ gtb) (hR : Y'.2.2.2.2 + 1 ≤ R0.frames ∧ 8 + (Y'.2.2.1 + 11) + 40 * Y'.2.2.2.2 ≤ R0.locals) (hn : As.length = np) (hst0 : st0 = As.reverse ++ rest) (hcat : (rest.map fun v => v.category).sum ≤ 8) (hd : decode cc pc = .ok (.invokestatic idx, 3)) (hf : k + E'.1 ≤ R0.cells ∧ z + E'.2.1 ≤ R0.slots)
    (hls : ls.size = nL) (hz : s.heap.size + k = b + n) (hP : va_P D cls (Wd cA b n M L R) H) (hS : va_S (fun q => b ≤ q) s.heap H locs) (hT : Tm l Y' E' n As M L R Q2)
    (kk : ∀ (r : Option Value) (M' : gM) (L' : gL) (R' : gR) (H1 : Heap) (locs1 : List Loc), Q2 r M' L' R' → va_P D cls (Wd cA b E'.2.2 M' L' R') H1 → va_S (fun q => b ≤ q) s.heap H1 locs1 → W p l e R0 s m args below meth c H1 locs1 (k + E'.1) (z + E'.2.1) Z (F0 m (pc + 3) ls ((psh r rest).map (cv b)))) : W p l e R0 s m args below meth c H locs k z Z (F0 m pc ls (st0.map (cv b))) := by
  intro T0 hT0 X0
  subst hT0
  have hsz := sz_of X0 hP hz hbs hS
  obtain ⟨hl, hcode, hini, hc1, hc2, hpar⟩ := hm
  have hPc : PreS s T0.heap (gP b n D cA M L R As) (As.map (cv b)) := ⟨gP_blind, fun U hU hW => ⟨rfl, by rw [hU]; exact hsz, by rw [hU]; exact hP, hK.warm hW, by rw [hU]; exact (hO.warm hW).kept hS.2.1⟩⟩
  have hroom : 2 * (F0 m pc ls (st0.map (cv b))).monitorRoom + ((rest.map (cv b)).map fun v => v.category).sum ≤ 8 := by
    rw [cats_cv]; show 2 * 0 + _ ≤ 8; omega
  have hstk : (F0 m pc ls (st0.map (cv b))).stack = (As.map (cv b)).reverse ++ rest.map (cv b) := by
    show st0.map (cv b) = _
    rw [hst0, List.map_append, List.map_reverse]
  refine w_after (D := D) (cA := cA) (rest := rest.map (cv b)) (n2 := E'.2.2) (Q2 := Q2) (mc := E'.1) (ms := E'.2.1) (a := (As.map (cv b)).toArray) ?_ hS (fun r M' L' R' H1 locs1 g1 g2 g3 => by rw [psh_cv]; exact kk r M' L' R' H1 locs1 g1 g2 g3) T0 rfl X0
  rcases hl with hl | ⟨host, hl⟩
  · exact va_runS (Ts := Ts) ⟨hx, hb, hml, hown, hts⟩ (hT b D cA) ⟨callB_of np hts hgood rfl rfl rfl (hts _ (hsub _ hini)) (hts _ (hsub _ hl)) ⟨hc1, hc2, hpar⟩ hR, hts _ (hsub _ hst)⟩ hPc rfl (by rw [List.length_map]; exact hn) hls hstk hroom hd hf
  · exact va_runSN (Ts := Ts) ⟨hx, hb, hml, hown, hts⟩ (hT b D cA) ⟨va_cnB np hts hgood rfl rfl rfl (hK.2.1 _ hl rfl) (hts _ (hsub _ hini)) ⟨hc1, hc2, hpar⟩ hR, hts _ (hsub _ hst), trivial⟩ hPc rfl (by rw [List.length_map]; exact hn) hls hstk hroom hd hf
theorem w_callV {p : Program} {e : Env} {R0 : Room} {s : State} {m : MethodId} {args : Array Value} {below : List Frame} {meth : Method} {c : Code} {H : Heap} {locs : List Loc} {b a ci idx np nL N : Nat} {ls : Array Slot} {As rest st0 : List Value} {D : va_G} {cA : Nat → ClassId} {Q2 : Option Value → gM → gL → gR → Prop} {Z : State → Prop} {Y' : gY} {E' : Nat × Nat × Nat} {own : String} {cc : ByteArray} {Ts : List Cond} {T : u_T}
    (hx : p.tables.exec = Jvm.exec) (hb : c.code = cc) (hml : c.maxLocals = nL) (hown : s.vm.findClass own = some m.cls) (hts : ∀ w ∈ Ts, w.before args s = true) (hsub : ∀ w ∈ gtb, w ∈ Ts) (hK : gK D cA s) (hgood : GoodIn Ts (gW Y')) (hbs : b ≤ s.heap.size) (hO : gO b s s.heap)
    (hm : mOk own idx np Y') (hins : Cond.instanceMethod Y'.1 ∈ gtb) (hsel : Cond.selects Y'.1.cls Y'.1 Y'.1 ∈ gtb) (hs : SH a = (0, ci)) (ha : a < n) (hc : cls[ci]? = some (Y'.1.cls, T, N)) (hR : Y'.2.2.2.2 + 1 ≤ R0.frames ∧ 8 + (Y'.2.2.1 + 11) + 40 * Y'.2.2.2.2 ≤ R0.locals) (hn : As.length = np) (hst0 : st0 = As.reverse ++ .ref a :: rest) (hcat : (rest.map fun v => v.category).sum ≤ 8) (hd : decode cc pc = .ok (.invokevirtual idx, 3)) (hf : k + E'.1 ≤ R0.cells ∧ z + E'.2.1 ≤ R0.slots)
    (hls : ls.size = nL) (hz : s.heap.size + k = b + n) (hP : va_P D cls (Wd cA b n M L R) H) (hS : va_S (fun q => b ≤ q) s.heap H locs) (hT : Tm l Y' E' n (.ref a :: As) M L R Q2)
    (kk : ∀ (r : Option Value) (M' : gM) (L' : gL) (R' : gR) (H1 : Heap) (locs1 : List Loc), Q2 r M' L' R' → va_P D cls (Wd cA b E'.2.2 M' L' R') H1 → va_S (fun q => b ≤ q) s.heap H1 locs1 → W p l e R0 s m args below meth c H1 locs1 (k + E'.1) (z + E'.2.1) Z (F0 m (pc + 3) ls ((psh r rest).map (cv b)))) : W p l e R0 s m args below meth c H locs k z Z (F0 m pc ls (st0.map (cv b))) := by
  intro T0 hT0 X0
  subst hT0
  have hsz := sz_of X0 hP hz hbs hS
  obtain ⟨hl, hcode, hini, hc1, hc2, hpar⟩ := hm
  have hrecv := va_recv hK.1 hP hc (by rw [wd_at ha, ent_obj hs])
  have hPc : PreV s T0.heap Y'.1.cls (b + a) (gP b n D cA M L R (.ref a :: As)) (As.map (cv b)) := ⟨gP_blind, hrecv, fun U hU hW => ⟨rfl, by rw [hU]; exact hsz, by rw [hU]; exact hP, hK.warm hW, by rw [hU]; exact (hO.warm hW).kept hS.2.1⟩⟩
  have hroom : 2 * (F0 m pc ls (st0.map (cv b))).monitorRoom + ((rest.map (cv b)).map fun v => v.category).sum ≤ 8 := by
    rw [cats_cv]; show 2 * 0 + _ ≤ 8; omega
  have hstk : (F0 m pc ls (st0.map (cv b))).stack = (As.map (cv b)).reverse ++ .ref (b + a) :: rest.map (cv b) := by
    show st0.map (cv b) = _
    rw [hst0, List.map_append, List.map_reverse]
    rfl
  refine w_after (D := D) (cA := cA) (rest := rest.map (cv b)) (n2 := E'.2.2) (Q2 := Q2) (mc := E'.1) (ms := E'.2.1) (a := (Value.ref (b + a) :: As.map (cv b)).toArray) ?_ hS (fun r M' L' R' H1 locs1 g1 g2 g3 => by rw [psh_cv]; exact kk r M' L' R' H1 locs1 g1 g2 g3) T0 rfl X0
  rcases hl with hl | ⟨host, hl⟩
  · exact va_runV (Ts := Ts) (C := Y'.1.cls) ⟨hx, hb, hml, hown, hts⟩ (hT b D cA) ⟨callB_of np hts hgood rfl rfl rfl (hts _ (hsub _ hini)) (hts _ (hsub _ hl)) ⟨hc1, hc2, hpar⟩ hR, hts _ (hsub _ hins), hts _ (hsub _ hsel)⟩ hPc rfl (by rw [List.length_map]; exact hn) hls hstk hroom hd hf
  · exact va_runVN (Ts := Ts) (C := Y'.1.cls) ⟨hx, hb, hml, hown, hts⟩ (hT b D cA) ⟨va_cnB np hts hgood rfl rfl rfl (hK.2.1 _ hl rfl) (hts _ (hsub _ hini)) ⟨hc1, hc2, hpar⟩ hR, hts _ (hsub _ hins), hts _ (hsub _ hsel)⟩ hPc rfl (by rw [List.length_map]; exact hn) hls hstk hroom hd hf
theorem w_callI {p : Program} {e : Env} {R0 : Room} {s : State} {m : MethodId} {args : Array Value} {below : List Frame} {meth : Method} {c : Code} {H : Heap} {locs : List Loc} {b a idx np nL : Nat} {ls : Array Slot} {As rest st0 : List Value} {D : va_G} {cA : Nat → ClassId} {Q2 : Option Value → gM → gL → gR → Prop} {Z : State → Prop} {Y' : gY} {E' : Nat × Nat × Nat} {own : String} {cc : ByteArray} {Ts : List Cond}
    (hx : p.tables.exec = Jvm.exec) (hb : c.code = cc) (hml : c.maxLocals = nL) (hown : s.vm.findClass own = some m.cls) (hts : ∀ w ∈ Ts, w.before args s = true) (hsub : ∀ w ∈ gtb, w ∈ Ts) (hK : gK D cA s) (hgood : GoodIn Ts (gW Y')) (hbs : b ≤ s.heap.size) (hO : gO b s s.heap)
    (hm : mOk own idx np Y') (hins : Cond.instanceMethod Y'.1 ∈ gtb) (hnm : Y'.1.name = "<init>") (hrt : Y'.2.2.2.1 = none) (hR : Y'.2.2.2.2 + 1 ≤ R0.frames ∧ 8 + (Y'.2.2.1 + 11) + 40 * Y'.2.2.2.2 ≤ R0.locals) (hn : As.length = np) (hst0 : st0 = As.reverse ++ .ref a :: rest) (hcat : (rest.map fun v => v.category).sum ≤ 8) (hd : decode cc pc = .ok (.invokespecial idx, 3)) (hf : k + E'.1 ≤ R0.cells ∧ z + E'.2.1 ≤ R0.slots)
    (hls : ls.size = nL) (hz : s.heap.size + k = b + n) (hP : va_P D cls (Wd cA b n M L R) H) (hS : va_S (fun q => b ≤ q) s.heap H locs) (hT : Tm l Y' E' n (.ref a :: As) M L R Q2)
    (kk : ∀ (r : Option Value) (M' : gM) (L' : gL) (R' : gR) (H1 : Heap) (locs1 : List Loc), Q2 r M' L' R' → va_P D cls (Wd cA b E'.2.2 M' L' R') H1 → va_S (fun q => b ≤ q) s.heap H1 locs1 → W p l e R0 s m args below meth c H1 locs1 (k + E'.1) (z + E'.2.1) Z (F0 m (pc + 3) ls ((psh r rest).map (cv b)))) : W p l e R0 s m args below meth c H locs k z Z (F0 m pc ls (st0.map (cv b))) := by
  intro T0 hT0 X0
  subst hT0
  have hsz := sz_of X0 hP hz hbs hS
  obtain ⟨hl, hcode, hini, hc1, hc2, hpar⟩ := hm
  obtain ⟨y, cc', mL, rt, hh⟩ := Y'
  have hrt : rt = none := hrt
  subst hrt
  have hPc : PreS s T0.heap (gP b n D cA M L R (.ref a :: As)) (.ref (b + a) :: As.map (cv b)) := ⟨gP_blind, fun U hU hW => ⟨rfl, by rw [hU]; exact hsz, by rw [hU]; exact hP, hK.warm hW, by rw [hU]; exact (hO.warm hW).kept hS.2.1⟩⟩
  have hroom : 2 * (F0 m pc ls (st0.map (cv b))).monitorRoom + ((rest.map (cv b)).map fun v => v.category).sum ≤ 8 := by
    rw [cats_cv]; show 2 * 0 + _ ≤ 8; omega
  have hstk : (F0 m pc ls (st0.map (cv b))).stack = (As.map (cv b)).reverse ++ .ref (b + a) :: rest.map (cv b) := by
    show st0.map (cv b) = _
    rw [hst0, List.map_append, List.map_reverse]
    rfl
  refine w_after (D := D) (cA := cA) (rest := rest.map (cv b)) (n2 := E'.2.2) (Q2 := Q2) (mc := E'.1) (ms := E'.2.1) (a := (Value.ref (b + a) :: As.map (cv b)).toArray) ?_ hS (fun r M' L' R' H1 locs1 g1 g2 g3 => by rw [psh_cv]; exact kk r M' L' R' H1 locs1 g1 g2 g3) T0 rfl X0
  rcases hl with hl | ⟨host, hl⟩
  · exact va_runI (Ts := Ts) ⟨hx, hb, hml, hown, hts⟩ (hT b D cA) ⟨callB_of np hts hgood rfl rfl rfl (hts _ (hsub _ hini)) (hts _ (hsub _ hl)) ⟨hc1, hc2, hpar⟩ hR, hnm, hts _ (hsub _ hins)⟩ hPc rfl (by rw [List.length_map]; exact hn) hls hstk hroom hd hf
  · exact va_runIN (Ts := Ts) ⟨hx, hb, hml, hown, hts⟩ (hT b D cA) ⟨va_cnB np hts hgood rfl rfl rfl (hK.2.1 _ hl rfl) (hts _ (hsub _ hini)) ⟨hc1, hc2, hpar⟩ hR, hnm, hts _ (hsub _ hins)⟩ hPc rfl (by rw [List.length_map]; exact hn) hls hstk hroom hd hf
theorem g_callS {Y' : gY} {E' : Nat × Nat × Nat} {idx np : Nat} {As rest : List Value} (hd : decode Y.2.1 pc = .ok (.invokestatic idx, 3)) (hp : pc + 3 = pc1) (hm : mOk Y.1.cls idx np Y') (hst : Cond.static Y'.1 ∈ gtb) (hR : Y'.2.2.2.2 + 1 ≤ Y.2.2.2.2 ∧ 8 + (Y'.2.2.1 + 11) + 40 * Y'.2.2.2.2 ≤ 40 * Y.2.2.2.2) (hn : As.length = np) (hst0 : st = As.reverse ++ rest) (hcat : (rest.map fun v => v.category).sum ≤ 8) (hf : k + E'.1 ≤ E.1 ∧ z + E'.2.1 ≤ E.2.1) (hE : E'.2.2 = n + E'.1)
    (hT : Tm l Y' E' n As M L R (fun r M' L' R' => Wp l Y E E'.2.2 (k + E'.1) (z + E'.2.1) pc1 lv (psh r rest) M' L' R' Q)) : Wp l Y E n k z pc lv st M L R Q := by
  subst hp
  intro b D cA p e s m args below meth c H locs ls CX hz hP hS hl
  obtain ⟨hx, hb, hr, hlk, hml, hown, hnm, hts, hK, hbs, hO⟩ := id CX
  exact w_callS hx hb hml hown hts (fun w hw => List.mem_cons_of_mem _ hw) hK (gw_good hm.2.1) hbs hO hm hst hR hn hst0 hcat hd hf hl.1 hz hP hS hT
    (fun r M' L' R' H1 locs1 g1 g2 g3 => g1 b D cA p e s m args below meth c H1 locs1 ls CX (by omega) g2 g3 hl)
theorem g_callV {Y' : gY} {E' : Nat × Nat × Nat} {idx np a ci N : Nat} {T : u_T} {As rest : List Value} (hd : decode Y.2.1 pc = .ok (.invokevirtual idx, 3)) (hp : pc + 3 = pc1) (hm : mOk Y.1.cls idx np Y') (hins : Cond.instanceMethod Y'.1 ∈ gtb) (hsel : Cond.selects Y'.1.cls Y'.1 Y'.1 ∈ gtb) (hc : cls[ci]? = some (Y'.1.cls, T, N)) (hs : SH a = (0, ci)) (ha : a < n) (hR : Y'.2.2.2.2 + 1 ≤ Y.2.2.2.2 ∧ 8 + (Y'.2.2.1 + 11) + 40 * Y'.2.2.2.2 ≤ 40 * Y.2.2.2.2) (hn : As.length = np) (hst0 : st = As.reverse ++ .ref a :: rest) (hcat : (rest.map fun v => v.category).sum ≤ 8) (hf : k + E'.1 ≤ E.1 ∧ z + E'.2.1 ≤ E.2.1) (hE : E'.2.2 = n + E'.1)
    (hT : Tm l Y' E' n (.ref a :: As) M L R (fun r M' L' R' => Wp l Y E E'.2.2 (k + E'.1) (z + E'.2.1) pc1 lv (psh r rest) M' L' R' Q)) : Wp l Y E n k z pc lv st M L R Q := by
  subst hp
  intro b D cA p e s m args below meth c H locs ls CX hz hP hS hl
  obtain ⟨hx, hb, hr, hlk, hml, hown, hnm, hts, hK, hbs, hO⟩ := id CX
  exact w_callV hx hb hml hown hts (fun w hw => List.mem_cons_of_mem _ hw) hK (gw_good hm.2.1) hbs hO hm hins hsel hs ha hc hR hn hst0 hcat hd hf hl.1 hz hP hS hT
    (fun r M' L' R' H1 locs1 g1 g2 g3 => g1 b D cA p e s m args below meth c H1 locs1 ls CX (by omega) g2 g3 hl)
theorem g_callI {Y' : gY} {E' : Nat × Nat × Nat} {idx np a : Nat} {As rest : List Value} (hd : decode Y.2.1 pc = .ok (.invokespecial idx, 3)) (hp : pc + 3 = pc1) (hm : mOk Y.1.cls idx np Y') (hins : Cond.instanceMethod Y'.1 ∈ gtb) (hnm' : Y'.1.name = "<init>") (hrt : Y'.2.2.2.1 = none) (hR : Y'.2.2.2.2 + 1 ≤ Y.2.2.2.2 ∧ 8 + (Y'.2.2.1 + 11) + 40 * Y'.2.2.2.2 ≤ 40 * Y.2.2.2.2) (hn : As.length = np) (hst0 : st = As.reverse ++ .ref a :: rest) (hcat : (rest.map fun v => v.category).sum ≤ 8) (hf : k + E'.1 ≤ E.1 ∧ z + E'.2.1 ≤ E.2.1) (hE : E'.2.2 = n + E'.1)
    (hT : Tm l Y' E' n (.ref a :: As) M L R (fun r M' L' R' => Wp l Y E E'.2.2 (k + E'.1) (z + E'.2.1) pc1 lv (psh r rest) M' L' R' Q)) : Wp l Y E n k z pc lv st M L R Q := by
  subst hp
  intro b D cA p e s m args below meth c H locs ls CX hz hP hS hl
  obtain ⟨hx, hb, hr, hlk, hml, hown, hnm, hts, hK, hbs, hO⟩ := id CX
  exact w_callI hx hb hml hown hts (fun w hw => List.mem_cons_of_mem _ hw) hK (gw_good hm.2.1) hbs hO hm hins hnm' hrt hR hn hst0 hcat hd hf hl.1 hz hP hS hT
    (fun r M' L' R' H1 locs1 g1 g2 g3 => g1 b D cA p e s m args below meth c H1 locs1 ls CX (by omega) g2 g3 hl)
end RULES3
