section MG6x0
/-! THE CLAIM OUT OF ONE WALK OF THE LAW'S BODY. Your part is whole_start (and what it stands on); all else here is the same for every law, but numbers. -/
def R_law : String := "CookedLawLaw"
def lw_P (b : Addr) (xs : List Int32) (args : Array Value) (s : State) : Prop := args = #[.ref b] ∧ s.IntsAt b xs ∧ xs.length ≤ 3072 ∧ (Jvm.Cond.and given_1 narrow_1).before args s = true
def lw_Q (_ : Array Value) (s : State) (o : Outcome) (t : State) : Prop := o = .returned (some (.int 1)) ∧ Framed s o t [] 600000 7302249
def lw_Z (below : List Frame) (a : Array Value) (s : State) : State → Prop := fun t => ∃ o, t.status = .running ∧ Ended t below o ∧ lw_Q a s o t
/-- the law's own end, with 1 on the stack, nothing written that was there before, its room as the claim has it -/
theorem lw_ret {p : Program} {l : Launch} {e : Env} {s : State} {m : MethodId} {below : List Frame} {meth : Method} {c : Code} {b : Nat} (hx : p.tables.exec = Jvm.exec) (hb : c.code = code) (hr : meth.sig.returnType = ret) (hlocks : meth.locks = false) {pc : Nat} {H : Heap} {ls : Array Slot} (hdg : decode code pc = .ok (.ireturn, 1)) : W p l e room_1 s m #[Value.ref b] below meth c H [] 600000 7302249 (lw_Z below #[Value.ref b] s) (F0 m pc ls [.int 1]) := by
  intro T hT X
  obtain ⟨fs, hret, hrun, hended, hW, hframe⟩ := X.leave (v := some (.int 1)) (hlocks := hlocks) (fun h => by rw [hr] at h; cases h)
  have hmeth' : T.vm.method? m = some meth := X.method'
  refine ⟨T.setFrames fs, ?_, .returned (some (.int 1)), hrun, hended, rfl, ⟨_, rfl⟩, hW, hframe⟩
  jvm_step X.here [X.here.top, hx, hb, hdg, hmeth', hr, ret, narrow_b1]
  (try refine ⟨rfl, ?_⟩); (try refine ⟨rfl, ?_⟩)
  first | (intro acts; rw [hret _ acts rfl rfl rfl]) | rw [hret _ _ rfl rfl rfl]
  exact Steps.refl _
/-- what holds at the law's entry: the machine, the code, the tables' words (any of lw_tbl by 'hts w (by decide +kernel)'), the script of L ints xs at the cell b, what the Statement gives of the start (any of its parts by flat_of_before) -/
def lw_At (p : Program) (s : State) (m : MethodId) (meth : Method) (c : Code) (b L : Nat) (xs : Nat → Int32) : Prop :=
  p.tables.exec = Jvm.exec ∧ c.code = code ∧ meth.sig.returnType = ret ∧ c.maxLocals = 4 ∧ s.vm.findClass R_law = some m.cls ∧ (∀ w ∈ lw_tbl, w.before #[Value.ref b] s = true) ∧ va_X b L xs s s.heap ∧ b < s.heap.size ∧ meth.locks = false ∧ (Jvm.Cond.and given_1 narrow_1).before #[Value.ref b] s = true
theorem op_32 (x : Int32) : x &&& 31 = 0 ∨ x &&& 31 = 1 ∨ x &&& 31 = 2 ∨ x &&& 31 = 3 ∨ x &&& 31 = 4 ∨ x &&& 31 = 5 ∨ x &&& 31 = 6 ∨ x &&& 31 = 7 ∨ x &&& 31 = 8 ∨ x &&& 31 = 9 ∨ x &&& 31 = 10 ∨ x &&& 31 = 11 ∨ x &&& 31 = 12 ∨ x &&& 31 = 13 ∨ x &&& 31 = 14 ∨ x &&& 31 = 15 ∨ x &&& 31 = 16 ∨ x &&& 31 = 17 ∨ x &&& 31 = 18 ∨ x &&& 31 = 19 ∨ x &&& 31 = 20 ∨ x &&& 31 = 21 ∨ x &&& 31 = 22 ∨ x &&& 31 = 23 ∨ x &&& 31 = 24 ∨ x &&& 31 = 25 ∨ x &&& 31 = 26 ∨ x &&& 31 = 27 ∨ x &&& 31 = 28 ∨ x &&& 31 = 29 ∨ x &&& 31 = 30 ∨ x &&& 31 = 31 := by
  have h1 : (x &&& 31).toBitVec.toNat < 32 := by
    show (x.toBitVec &&& (31 : Int32).toBitVec).toNat < 32
    rw [BitVec.toNat_and]
    exact Nat.lt_of_le_of_lt Nat.and_le_right (by decide)
  generalize x &&& 31 = y at h1 ⊢
  have h2 : ∀ n : Nat, n < 32 → ∀ y : Int32, y.toBitVec.toNat = n → y = Int32.ofNat n := by
    intro n hn y hy
    apply Int32.toBitVec_inj.mp
    apply BitVec.eq_of_toNat_eq
    rw [hy]
    show n = n % 2 ^ 32
    omega
  have h3 := h2 _ h1 y rfl
  generalize y.toBitVec.toNat = n at h1 h3
  have : ∀ n : Nat, n < 32 → ∀ y : Int32, y = Int32.ofNat n → (n = 0 ∨ n = 1 ∨ n = 2 ∨ n = 3 ∨ n = 4 ∨ n = 5 ∨ n = 6 ∨ n = 7 ∨ n = 8 ∨ n = 9 ∨ n = 10 ∨ n = 11 ∨ n = 12 ∨ n = 13 ∨ n = 14 ∨ n = 15 ∨ n = 16 ∨ n = 17 ∨ n = 18 ∨ n = 19 ∨ n = 20 ∨ n = 21 ∨ n = 22 ∨ n = 23 ∨ n = 24 ∨ n = 25 ∨ n = 26 ∨ n = 27 ∨ n = 28 ∨ n = 29 ∨ n = 30 ∨ n = 31) := by
    intro n hn y hy; omega
  rcases this n h1 y h3 with h | h | h | h | h | h | h | h | h | h | h | h | h | h | h | h | h | h | h | h | h | h | h | h | h | h | h | h | h | h | h | h <;> subst h <;> subst h3 <;> decide
/-! the law's own judgement: the script stays outside the picture, whose cells stand from the entry's heap on -/
def ZC (p : Program) (s : State) (m : MethodId) (meth : Method) (c : Code) (bs Lx : Nat) (xs : Nat → Int32) (D : va_G) (cA : Nat → ClassId) : Prop :=
  p.tables.exec = Jvm.exec ∧ c.code = code ∧ meth.sig.returnType = ret ∧ c.maxLocals = 4 ∧ s.vm.findClass R_law = some m.cls ∧ (∀ w ∈ lw_tbl, w.before #[Value.ref bs] s = true) ∧ va_X bs Lx xs s s.heap ∧ bs < s.heap.size ∧ meth.locks = false ∧ gK D cA s ∧ gO s.heap.size s s.heap
def Zw (l : Launch) (p : Program) (e : Env) (s : State) (m : MethodId) (below : List Frame) (meth : Method) (c : Code) (bs Lx : Nat) (xs : Nat → Int32) (D : va_G) (cA : Nat → ClassId) (k z pc : Nat) (lv : List (Nat × Value)) (st : List Value) (M : gM) (L : gL) (R : gR) : Prop :=
  ∀ (H : Heap) (locs : List Loc) (ls : Array Slot), va_P D cls (Wd cA s.heap.size k M L R) H → va_S (fun q => s.heap.size ≤ q) s.heap H locs → lv_has ls 4 lv → W p l e room_1 s m #[Value.ref bs] below meth c H locs k z (lw_Z below #[Value.ref bs] s) (F0 m pc ls st)
theorem gtb_tbl : ∀ w ∈ gtb, w ∈ lw_tbl := fun w h => (List.mem_filter.mp h).1
theorem lw_good {Y' : gY} (h : Cond.code Y'.1 Y'.2.1 Y'.2.2.1 Y'.2.2.2.1 ∈ gtb) : GoodIn lw_tbl (gW Y') := by
  have e : ∀ w ∈ gtb, GoodIn lw_tbl [w] := fun w hw v hv => by
    rw [List.mem_singleton.mp hv]
    exact ⟨gtb_tbl w hw, good_of_word (List.mem_filter.mp hw).2⟩
  intro w hw
  rcases List.mem_cons.mp hw with rfl | hw
  · exact e _ h _ (List.mem_singleton.mpr rfl)
  · exact e _ hw _ (List.mem_singleton.mpr rfl)
section ZRULES
variable {l : Launch} {p : Program} {e : Env} {s : State} {m : MethodId} {below : List Frame} {meth : Method} {c : Code} {bs Lx : Nat} {xs : Nat → Int32} {D : va_G} {cA : Nat → ClassId} {k z pc pc1 : Nat} {lv lv' : List (Nat × Value)} {st : List Value} {M : gM} {L : gL} {R R' : gR}

theorem z_iload_n (C : ZC p s m meth c bs Lx xs D cA) {kf : Fin 4} {i : Nat} (j : Nat) {x : Int32} (hd : decode code pc = .ok (.iload_n kf, 1)) (hp : pc + 1 = pc1) (hi : (kf : Nat) = i) (hv : lv[j]? = some (i, .int x)) (kk : Zw l p e s m below meth c bs Lx xs D cA k z pc1 lv (.int x :: st) M L R) : Zw l p e s m below meth c bs Lx xs D cA k z pc lv st M L R := by
  subst hp
  intro H locs ls hP hS hl
  exact lv_iload_n C.1 C.2.1 hd hi (lv_at hl j hv) (kk H locs ls hP hS hl)

theorem z_aload_n (C : ZC p s m meth c bs Lx xs D cA) {kf : Fin 4} {i : Nat} (j : Nat) {x : Nat} (hd : decode code pc = .ok (.aload_n kf, 1)) (hp : pc + 1 = pc1) (hi : (kf : Nat) = i) (hv : lv[j]? = some (i, .ref x)) (kk : Zw l p e s m below meth c bs Lx xs D cA k z pc1 lv (.ref x :: st) M L R) : Zw l p e s m below meth c bs Lx xs D cA k z pc lv st M L R := by
  subst hp
  intro H locs ls hP hS hl
  exact lv_aload_n C.1 C.2.1 hd hi (lv_at hl j hv) (kk H locs ls hP hS hl)

theorem z_iconst (C : ZC p s m meth c bs Lx xs D cA) {q : Int} {v : Int32} (hd : decode code pc = .ok (.iconst q, 1)) (hp : pc + 1 = pc1) (hv : Int32.ofInt q = v) (kk : Zw l p e s m below meth c bs Lx xs D cA k z pc1 lv (.int v :: st) M L R) : Zw l p e s m below meth c bs Lx xs D cA k z pc lv st M L R := by
  subst hp
  intro H locs ls hP hS hl
  exact lv_iconst C.1 C.2.1 hd hv (kk H locs ls hP hS hl)

theorem z_bipush (C : ZC p s m meth c bs Lx xs D cA) {q : Int} {v : Int32} (hd : decode code pc = .ok (.bipush q, 2)) (hp : pc + 2 = pc1) (hv : (Int8.ofInt q).toInt32 = v) (kk : Zw l p e s m below meth c bs Lx xs D cA k z pc1 lv (.int v :: st) M L R) : Zw l p e s m below meth c bs Lx xs D cA k z pc lv st M L R := by
  subst hp
  intro H locs ls hP hS hl
  exact lv_bipush C.1 C.2.1 hd hv (kk H locs ls hP hS hl)

theorem z_iadd (C : ZC p s m meth c bs Lx xs D cA) {x y : Int32} (hd : decode code pc = .ok (.iadd, 1)) (hp : pc + 1 = pc1) (kk : Zw l p e s m below meth c bs Lx xs D cA k z pc1 lv (.int (x + y) :: st) M L R) : Zw l p e s m below meth c bs Lx xs D cA k z pc lv (.int y :: .int x :: st) M L R := by
  subst hp
  intro H locs ls hP hS hl
  exact lv_iadd C.1 C.2.1 hd (kk H locs ls hP hS hl)

theorem z_isub (C : ZC p s m meth c bs Lx xs D cA) {x y : Int32} (hd : decode code pc = .ok (.isub, 1)) (hp : pc + 1 = pc1) (kk : Zw l p e s m below meth c bs Lx xs D cA k z pc1 lv (.int (x - y) :: st) M L R) : Zw l p e s m below meth c bs Lx xs D cA k z pc lv (.int y :: .int x :: st) M L R := by
  subst hp
  intro H locs ls hP hS hl
  exact lv_isub C.1 C.2.1 hd (kk H locs ls hP hS hl)

theorem z_iand (C : ZC p s m meth c bs Lx xs D cA) {x y : Int32} (hd : decode code pc = .ok (.iand, 1)) (hp : pc + 1 = pc1) (kk : Zw l p e s m below meth c bs Lx xs D cA k z pc1 lv (.int (x &&& y) :: st) M L R) : Zw l p e s m below meth c bs Lx xs D cA k z pc lv (.int y :: .int x :: st) M L R := by
  subst hp
  intro H locs ls hP hS hl
  exact lv_iand C.1 C.2.1 hd (kk H locs ls hP hS hl)

theorem z_istore_n (C : ZC p s m meth c bs Lx xs D cA) {kf : Fin 4} {i : Nat} {x : Int32} (hd : decode code pc = .ok (.istore_n kf, 1)) (hp : pc + 1 = pc1) (hi : (kf : Nat) = i) (hn : i < 4) (ks : List Nat) (hs : lv_pick (sto lv i (.int x)) ks = lv') (kk : Zw l p e s m below meth c bs Lx xs D cA k z pc1 lv' st M L R) : Zw l p e s m below meth c bs Lx xs D cA k z pc lv (.int x :: st) M L R := by
  subst hp
  intro H locs ls hP hS hl
  refine lv_istore_n C.1 C.2.1 hd hi hl hn rfl (fun ls2 hl2 => ?_)
  exact kk H locs ls2 hP hS (lv_sub hl2 ks hs)

theorem z_astore_n (C : ZC p s m meth c bs Lx xs D cA) {kf : Fin 4} {i : Nat} {x : Nat} (hd : decode code pc = .ok (.astore_n kf, 1)) (hp : pc + 1 = pc1) (hi : (kf : Nat) = i) (hn : i < 4) (ks : List Nat) (hs : lv_pick (sto lv i (.ref x)) ks = lv') (kk : Zw l p e s m below meth c bs Lx xs D cA k z pc1 lv' st M L R) : Zw l p e s m below meth c bs Lx xs D cA k z pc lv (.ref x :: st) M L R := by
  subst hp
  intro H locs ls hP hS hl
  refine lv_astore_n C.1 C.2.1 hd hi hl hn rfl (fun ls2 hl2 => ?_)
  exact kk H locs ls2 hP hS (lv_sub hl2 ks hs)

theorem z_iinc (C : ZC p s m meth c bs Lx xs D cA) {i : Nat} {q : Int} {x v : Int32} (hd : decode code pc = .ok (.iinc i q, 3)) (hp : pc + 3 = pc1) (j : Nat) (hv : lv[j]? = some (i, .int x)) (hx : x + Int32.ofInt q = v) (hn : i < 4) (ks : List Nat) (hs : lv_pick (sto lv i (.int v)) ks = lv') (kk : Zw l p e s m below meth c bs Lx xs D cA k z pc1 lv' st M L R) : Zw l p e s m below meth c bs Lx xs D cA k z pc lv st M L R := by
  subst hp
  intro H locs ls hP hS hl
  refine lv_iinc C.1 C.2.1 hd hl (k := j) (x := x) hv hx hn rfl (fun ls2 hl2 => ?_)
  exact kk H locs ls2 hP hS (lv_sub hl2 ks hs)

theorem z_sld (C : ZC p s m meth c bs Lx xs D cA) {i : Int32} (hd : decode code pc = .ok (.iaload, 1)) (hp : pc + 1 = pc1) (hin : vp_in i Lx) (kk : Zw l p e s m below meth c bs Lx xs D cA k z pc1 lv (.int (xs i.toNatClampNeg) :: st) M L R) : Zw l p e s m below meth c bs Lx xs D cA k z pc lv (.int i :: .ref bs :: st) M L R := by
  subst hp
  intro H locs ls hP hS hl
  exact va_sld C.1 C.2.1 C.2.2.2.2.2.2.1 C.2.2.2.2.2.2.2.1 (Nat.not_le.mpr C.2.2.2.2.2.2.2.1) hS hin hd (kk H locs ls hP hS hl)

theorem z_slen (C : ZC p s m meth c bs Lx xs D cA)  (hd : decode code pc = .ok (.arraylength, 1)) (hp : pc + 1 = pc1) (kk : Zw l p e s m below meth c bs Lx xs D cA k z pc1 lv (.int (Int32.ofNat Lx) :: st) M L R) : Zw l p e s m below meth c bs Lx xs D cA k z pc lv (.ref bs :: st) M L R := by
  subst hp
  intro H locs ls hP hS hl
  exact va_slen C.1 C.2.1 C.2.2.2.2.2.2.1 C.2.2.2.2.2.2.2.1 (Nat.not_le.mpr C.2.2.2.2.2.2.2.1) hS hd (kk H locs ls hP hS hl)

theorem z_icmp_gt (C : ZC p s m meth c bs Lx xs D cA) {x y : Int32} {off : Int} {tgt : Nat} (hd : decode code pc = .ok (.if_icmp .gt off, 3)) (ht : (pc : Int) + off = (tgt : Int)) (hp : pc + 3 = pc1) (kt : y < x → Zw l p e s m below meth c bs Lx xs D cA k z tgt lv st M L R) (kf : ¬ y < x → Zw l p e s m below meth c bs Lx xs D cA k z pc1 lv st M L R) : Zw l p e s m below meth c bs Lx xs D cA k z pc lv (.int y :: .int x :: st) M L R := by
  subst hp
  intro H locs ls hP hS hl
  exact lv_icmp_gt C.1 C.2.1 hd ht (fun h => kt h H locs ls hP hS hl) (fun h => kf h H locs ls hP hS hl)

theorem z_icmp_eq (C : ZC p s m meth c bs Lx xs D cA) {x y : Int32} {off : Int} {tgt : Nat} (hd : decode code pc = .ok (.if_icmp .eq off, 3)) (ht : (pc : Int) + off = (tgt : Int)) (hp : pc + 3 = pc1) (kt : x = y → Zw l p e s m below meth c bs Lx xs D cA k z tgt lv st M L R) (kf : ¬ x = y → Zw l p e s m below meth c bs Lx xs D cA k z pc1 lv st M L R) : Zw l p e s m below meth c bs Lx xs D cA k z pc lv (.int y :: .int x :: st) M L R := by
  subst hp
  intro H locs ls hP hS hl
  exact lv_icmp_eq C.1 C.2.1 hd ht (fun h => kt h H locs ls hP hS hl) (fun h => kf h H locs ls hP hS hl)

theorem z_icmp_ne (C : ZC p s m meth c bs Lx xs D cA) {x y : Int32} {off : Int} {tgt : Nat} (hd : decode code pc = .ok (.if_icmp .ne off, 3)) (ht : (pc : Int) + off = (tgt : Int)) (hp : pc + 3 = pc1) (kt : ¬ x = y → Zw l p e s m below meth c bs Lx xs D cA k z tgt lv st M L R) (kf : x = y → Zw l p e s m below meth c bs Lx xs D cA k z pc1 lv st M L R) : Zw l p e s m below meth c bs Lx xs D cA k z pc lv (.int y :: .int x :: st) M L R := by
  subst hp
  intro H locs ls hP hS hl
  exact lv_icmp_ne C.1 C.2.1 hd ht (fun h => kt h H locs ls hP hS hl) (fun h => kf h H locs ls hP hS hl)

theorem z_goto (C : ZC p s m meth c bs Lx xs D cA) {off : Int} {tgt : Nat} (hd : decode code pc = .ok (.goto off, 3)) (ht : (pc : Int) + off = (tgt : Int)) (kk : Zw l p e s m below meth c bs Lx xs D cA k z tgt lv st M L R) : Zw l p e s m below meth c bs Lx xs D cA k z pc lv st M L R := by
  intro H locs ls hP hS hl
  exact lv_goto C.1 C.2.1 hd ht (kk H locs ls hP hS hl)

theorem z_pop (C : ZC p s m meth c bs Lx xs D cA) {v : Value} (hd : decode code pc = .ok (.pop, 1)) (hp : pc + 1 = pc1) (hc : v.category = 1) (kk : Zw l p e s m below meth c bs Lx xs D cA k z pc1 lv st M L R) : Zw l p e s m below meth c bs Lx xs D cA k z pc lv (v :: st) M L R := by
  subst hp
  intro H locs ls hP hS hl
  exact lv_pop C.1 C.2.1 hd hc (kk H locs ls hP hS hl)

theorem z_dup (C : ZC p s m meth c bs Lx xs D cA) {v : Value} (hd : decode code pc = .ok (.dup, 1)) (hp : pc + 1 = pc1) (hc : v.category = 1) (kk : Zw l p e s m below meth c bs Lx xs D cA k z pc1 lv (v :: v :: st) M L R) : Zw l p e s m below meth c bs Lx xs D cA k z pc lv (v :: st) M L R := by
  subst hp
  intro H locs ls hP hS hl
  exact lv_dup C.1 C.2.1 hd hc (kk H locs ls hP hS hl)

theorem z_tabK (C : ZC p s m meth c bs Lx xs D cA) {dflt lo hi : Int} {offs : Array Int} {len : Nat} {x v : Int32} {off : Int} {tgt : Nat} (hd : decode code pc = .ok (.tableswitch dflt lo hi offs, len)) (hx : x = v) (h1 : ¬ v.toInt < lo) (h2 : ¬ hi < v.toInt) (ho : offs[(v.toInt - lo).toNat]? = some off) (ht : (pc : Int) + off = (tgt : Int)) (kk : Zw l p e s m below meth c bs Lx xs D cA k z tgt lv st M L R) : Zw l p e s m below meth c bs Lx xs D cA k z pc lv (.int x :: st) M L R := by
  subst hx
  intro H locs ls hP hS hl
  exact lv_tableIn C.1 C.2.1 hd h1 h2 ho ht (kk H locs ls hP hS hl)

theorem z_tabOut (C : ZC p s m meth c bs Lx xs D cA) {dflt lo hi : Int} {offs : Array Int} {len : Nat} {x : Int32} {tgt : Nat} (hd : decode code pc = .ok (.tableswitch dflt lo hi offs, len)) (h : x.toInt < lo ∨ hi < x.toInt) (ht : (pc : Int) + dflt = (tgt : Int)) (kk : Zw l p e s m below meth c bs Lx xs D cA k z tgt lv st M L R) : Zw l p e s m below meth c bs Lx xs D cA k z pc lv (.int x :: st) M L R := by
  intro H locs ls hP hS hl
  exact lv_tableOut C.1 C.2.1 hd h ht (kk H locs ls hP hS hl)

theorem z_topR (C : ZC p s m meth c bs Lx xs D cA)  (h : sameR k R R') (hk : k ≤ 447) (kk : Zw l p e s m below meth c bs Lx xs D cA k z pc lv st M L R') : Zw l p e s m below meth c bs Lx xs D cA k z pc lv st M L R := by
  intro H locs ls hP hS hl
  rw [h.wd hk] at hP
  exact kk H locs ls hP hS hl

theorem z_new (C : ZC p s m meth c bs Lx xs D cA) {ci idx N : Nat} {Cn : String} {T : u_T} {ty : Nat → FieldType} (hd : decode code pc = .ok (.new idx, 3)) (hp : pc + 3 = pc1) (hc : cls[ci]? = some (Cn, T, N)) (hin : ∀ w ∈ u_ws Cn T N, w ∈ lw_tbl) (hty : ∀ k, k < N → parseFieldDescriptor (T k).2.2.1 = some (ty k)) (hdf : ∀ j, j < N → defaultValue (ty j) = vp_V ((fks ci).map (fun q => match q.1 with | 0 => .int 0 | 2 => .int 0 | _ => .null)) j) (hw1 : Cond.classLink R_law idx Cn ∈ gtb) (hw2 : Cond.instantiable Cn N ∈ gtb) (hw3 : Cond.initialized Cn ∈ gtb) (hs : SH k = (0, ci)) (hz1 : ∀ i, M k i = 0) (hz2 : ∀ i, R k i = none) (h1 : k + 1 ≤ 600000) (h2 : z + N ≤ 7302249) (kk : Zw l p e s m below meth c bs Lx xs D cA (k + 1) (z + N) pc1 lv (.ref (s.heap.size + k) :: st) M L R) : Zw l p e s m below meth c bs Lx xs D cA k z pc lv st M L R := by
  subst hp
  intro H locs ls hP hS hl
  obtain ⟨hx, hb, hr, hml, hown, hts, hX, hbl, hlk, hK, hO⟩ := C
  refine va_new (D := D) hx hb hts hin ty hty hown (hts _ (gtb_tbl _ hw1)) (hts _ (gtb_tbl _ hw2)) (hts _ (gtb_tbl _ hw3)) hK.1 hP wd_D hS (fun q hq => hq) hc hdf h1 h2 hd (fun q H1 hP1 hD1 hS1 => ?_)
  intro T0 hT0 X0
  have hq : q = s.heap.size + k := wd_q hP1 hD1 (by rw [← hT0]; exact X0.heapSize) (by omega)
  subst hq
  have e : (fks ci).map (fun q => match q.1 with | 0 => Value.int 0 | 2 => Value.int 0 | _ => Value.null) = (fks ci).map (fvl s.heap.size M R k) := by
    apply List.map_congr_left
    intro q _
    unfold fvl
    rw [hz1, hz2]
    obtain ⟨kd, j⟩ := q
    rcases kd with _ | _ | _ | kd <;> rfl
  rw [e, ← ent_obj (L := L) (cA := cA) hs, ← wd_snoc] at hP1
  exact kk H1 locs ls hP1 hS1 hl T0 hT0 X0

theorem z_callV (C : ZC p s m meth c bs Lx xs D cA) {Y' : gY} {E' : Nat × Nat × Nat} {idx np a ci N : Nat} {T : u_T} {As rest : List Value} (hd : decode code pc = .ok (.invokevirtual idx, 3)) (hp : pc + 3 = pc1) (hm : mOk R_law idx np Y') (hins : Cond.instanceMethod Y'.1 ∈ gtb) (hsel : Cond.selects Y'.1.cls Y'.1 Y'.1 ∈ gtb) (hs : SH a = (0, ci)) (ha : a < k) (hc : cls[ci]? = some (Y'.1.cls, T, N)) (hR : Y'.2.2.2.2 + 1 ≤ 11 ∧ 8 + (Y'.2.2.1 + 11) + 40 * Y'.2.2.2.2 ≤ 446) (hn : As.length = np) (hst : st = (As.reverse ++ .ref a :: rest).map (cv s.heap.size)) (hcat : (rest.map fun v => v.category).sum ≤ 8) (hf : k + E'.1 ≤ 600000 ∧ z + E'.2.1 ≤ 7302249) (hE : E'.2.2 = k + E'.1) (hT : Tm l Y' E' k (.ref a :: As) M L R (fun r M' L' R' => Zw l p e s m below meth c bs Lx xs D cA E'.2.2 (z + E'.2.1) pc1 lv ((psh r rest).map (cv s.heap.size)) M' L' R')) : Zw l p e s m below meth c bs Lx xs D cA k z pc lv st M L R := by
  subst hp
  intro H locs ls hP hS hl
  obtain ⟨hx, hb, hr, hml, hown, hts, hX, hbl, hlk, hK, hO⟩ := id C
  subst hst
  refine w_callV hx hb hml hown hts gtb_tbl hK (lw_good hm.2.1) (Nat.le_refl _) hO hm hins hsel hs ha hc hR hn rfl hcat hd hf hl.1 rfl hP hS hT (fun r M' L' R' H1 locs1 g1 g2 g3 => ?_)
  rw [← hE]
  exact g1 H1 locs1 ls g2 g3 hl

theorem z_callI (C : ZC p s m meth c bs Lx xs D cA) {Y' : gY} {E' : Nat × Nat × Nat} {idx np a : Nat} {As rest : List Value} (hd : decode code pc = .ok (.invokespecial idx, 3)) (hp : pc + 3 = pc1) (hm : mOk R_law idx np Y') (hins : Cond.instanceMethod Y'.1 ∈ gtb) (hnm : Y'.1.name = "<init>") (hrt : Y'.2.2.2.1 = none) (hR : Y'.2.2.2.2 + 1 ≤ 11 ∧ 8 + (Y'.2.2.1 + 11) + 40 * Y'.2.2.2.2 ≤ 446) (hn : As.length = np) (hst : st = (As.reverse ++ .ref a :: rest).map (cv s.heap.size)) (hcat : (rest.map fun v => v.category).sum ≤ 8) (hf : k + E'.1 ≤ 600000 ∧ z + E'.2.1 ≤ 7302249) (hE : E'.2.2 = k + E'.1) (hT : Tm l Y' E' k (.ref a :: As) M L R (fun r M' L' R' => Zw l p e s m below meth c bs Lx xs D cA E'.2.2 (z + E'.2.1) pc1 lv ((psh r rest).map (cv s.heap.size)) M' L' R')) : Zw l p e s m below meth c bs Lx xs D cA k z pc lv st M L R := by
  subst hp
  intro H locs ls hP hS hl
  obtain ⟨hx, hb, hr, hml, hown, hts, hX, hbl, hlk, hK, hO⟩ := id C
  subst hst
  refine w_callI hx hb hml hown hts gtb_tbl hK (lw_good hm.2.1) (Nat.le_refl _) hO hm hins hnm hrt hR hn rfl hcat hd hf hl.1 rfl hP hS hT (fun r M' L' R' H1 locs1 g1 g2 g3 => ?_)
  rw [← hE]
  exact g1 H1 locs1 ls g2 g3 hl

theorem z_end (C : ZC p s m meth c bs Lx xs D cA)  (hd : decode code pc = .ok (.ireturn, 1)) (h1 : k ≤ 600000) (h2 : z ≤ 7302249) : Zw l p e s m below meth c bs Lx xs D cA k z pc lv [.int 1] M L R := by
  intro H locs ls hP hS hl
  exact va_forget (fun q hq => hS.2.2 q hq) (W.widen h1 h2 (lw_ret C.1 C.2.1 C.2.2.1 C.2.2.2.2.2.2.2.2.1 hd))

end ZRULES
end MG6x0
section MG6x1
set_option maxRecDepth 100000 in
theorem mk_Main_init : Cond.code y_Main_init.1 y_Main_init.2.1 y_Main_init.2.2.1 y_Main_init.2.2.2.1 ∈ gtb ∧ Cond.initialized y_Main_init.1.cls ∈ gtb ∧ y_Main_init.1.cls ≠ "java/lang/invoke/MethodHandle" ∧ y_Main_init.1.cls ≠ "java/lang/invoke/VarHandle" ∧ (parseMethodDescriptor y_Main_init.1.desc).map (fun d => d.parameters.length) = some 0 := ⟨(gk_1 (List.mem_of_getElem? (i := 24) rfl) rfl), cz_Main, cx_Main.1, cx_Main.2, by decide +kernel⟩
set_option maxRecDepth 100000 in
theorem mi_Main_init : Cond.instanceMethod y_Main_init.1 ∈ gtb := (gk_1 (List.mem_of_getElem? (i := 23) rfl) rfl)
set_option maxRecDepth 100000 in
theorem mo_Law0_9 : mOk R_law 9 0 y_Main_init := ⟨Or.inl (gk_1 (List.mem_of_getElem? (i := 22) rfl) rfl), mk_Main_init⟩
set_option maxRecDepth 100000 in
theorem mk_Mod_init : Cond.code y_Mod_init.1 y_Mod_init.2.1 y_Mod_init.2.2.1 y_Mod_init.2.2.2.1 ∈ gtb ∧ Cond.initialized y_Mod_init.1.cls ∈ gtb ∧ y_Mod_init.1.cls ≠ "java/lang/invoke/MethodHandle" ∧ y_Mod_init.1.cls ≠ "java/lang/invoke/VarHandle" ∧ (parseMethodDescriptor y_Mod_init.1.desc).map (fun d => d.parameters.length) = some 0 := ⟨(gk_5 (List.mem_of_getElem? (i := 183) rfl) rfl), cz_Mod, cx_Mod.1, cx_Mod.2, by decide +kernel⟩
set_option maxRecDepth 100000 in
theorem mi_Mod_init : Cond.instanceMethod y_Mod_init.1 ∈ gtb := (gk_5 (List.mem_of_getElem? (i := 182) rfl) rfl)
set_option maxRecDepth 100000 in
theorem mo_Law0_12 : mOk R_law 12 0 y_Mod_init := ⟨Or.inl (gk_5 (List.mem_of_getElem? (i := 181) rfl) rfl), mk_Mod_init⟩
set_option maxRecDepth 100000 in
theorem mk_Main_feed : Cond.code y_Main_feed.1 y_Main_feed.2.1 y_Main_feed.2.2.1 y_Main_feed.2.2.2.1 ∈ gtb ∧ Cond.initialized y_Main_feed.1.cls ∈ gtb ∧ y_Main_feed.1.cls ≠ "java/lang/invoke/MethodHandle" ∧ y_Main_feed.1.cls ≠ "java/lang/invoke/VarHandle" ∧ (parseMethodDescriptor y_Main_feed.1.desc).map (fun d => d.parameters.length) = some 5 := ⟨(gk_3 (List.mem_of_getElem? (i := 25) rfl) rfl), cz_Main, cx_Main.1, cx_Main.2, by decide +kernel⟩
set_option maxRecDepth 100000 in
theorem mi_Main_feed : Cond.instanceMethod y_Main_feed.1 ∈ gtb := (gk_3 (List.mem_of_getElem? (i := 23) rfl) rfl)
set_option maxRecDepth 100000 in
theorem mv_Main_feed : Cond.selects y_Main_feed.1.cls y_Main_feed.1 y_Main_feed.1 ∈ gtb := (gk_3 (List.mem_of_getElem? (i := 24) rfl) rfl)
set_option maxRecDepth 100000 in
theorem mo_Law0_13 : mOk R_law 13 5 y_Main_feed := ⟨Or.inl (gk_3 (List.mem_of_getElem? (i := 22) rfl) rfl), mk_Main_feed⟩
set_option maxRecDepth 100000 in
theorem mk_Mod_feed : Cond.code y_Mod_feed.1 y_Mod_feed.2.1 y_Mod_feed.2.2.1 y_Mod_feed.2.2.2.1 ∈ gtb ∧ Cond.initialized y_Mod_feed.1.cls ∈ gtb ∧ y_Mod_feed.1.cls ≠ "java/lang/invoke/MethodHandle" ∧ y_Mod_feed.1.cls ≠ "java/lang/invoke/VarHandle" ∧ (parseMethodDescriptor y_Mod_feed.1.desc).map (fun d => d.parameters.length) = some 5 := ⟨(gk_6 (List.mem_of_getElem? (i := 180) rfl) rfl), cz_Mod, cx_Mod.1, cx_Mod.2, by decide +kernel⟩
set_option maxRecDepth 100000 in
theorem mi_Mod_feed : Cond.instanceMethod y_Mod_feed.1 ∈ gtb := (gk_6 (List.mem_of_getElem? (i := 178) rfl) rfl)
set_option maxRecDepth 100000 in
theorem mv_Mod_feed : Cond.selects y_Mod_feed.1.cls y_Mod_feed.1 y_Mod_feed.1 ∈ gtb := (gk_6 (List.mem_of_getElem? (i := 179) rfl) rfl)
set_option maxRecDepth 100000 in
theorem mo_Law0_17 : mOk R_law 17 5 y_Mod_feed := ⟨Or.inl (gk_6 (List.mem_of_getElem? (i := 177) rfl) rfl), mk_Mod_feed⟩
set_option maxRecDepth 100000 in
theorem mk_Main_back : Cond.code y_Main_back.1 y_Main_back.2.1 y_Main_back.2.2.1 y_Main_back.2.2.2.1 ∈ gtb ∧ Cond.initialized y_Main_back.1.cls ∈ gtb ∧ y_Main_back.1.cls ≠ "java/lang/invoke/MethodHandle" ∧ y_Main_back.1.cls ≠ "java/lang/invoke/VarHandle" ∧ (parseMethodDescriptor y_Main_back.1.desc).map (fun d => d.parameters.length) = some 1 := ⟨(gk_3 (List.mem_of_getElem? (i := 36) rfl) rfl), cz_Main, cx_Main.1, cx_Main.2, by decide +kernel⟩
set_option maxRecDepth 100000 in
theorem mi_Main_back : Cond.instanceMethod y_Main_back.1 ∈ gtb := (gk_3 (List.mem_of_getElem? (i := 34) rfl) rfl)
set_option maxRecDepth 100000 in
theorem mv_Main_back : Cond.selects y_Main_back.1.cls y_Main_back.1 y_Main_back.1 ∈ gtb := (gk_3 (List.mem_of_getElem? (i := 35) rfl) rfl)
set_option maxRecDepth 100000 in
theorem mo_Law0_18 : mOk R_law 18 1 y_Main_back := ⟨Or.inl (gk_3 (List.mem_of_getElem? (i := 33) rfl) rfl), mk_Main_back⟩
set_option maxRecDepth 100000 in
theorem mk_Mod_back : Cond.code y_Mod_back.1 y_Mod_back.2.1 y_Mod_back.2.2.1 y_Mod_back.2.2.2.1 ∈ gtb ∧ Cond.initialized y_Mod_back.1.cls ∈ gtb ∧ y_Mod_back.1.cls ≠ "java/lang/invoke/MethodHandle" ∧ y_Mod_back.1.cls ≠ "java/lang/invoke/VarHandle" ∧ (parseMethodDescriptor y_Mod_back.1.desc).map (fun d => d.parameters.length) = some 1 := ⟨(gk_6 (List.mem_of_getElem? (i := 188) rfl) rfl), cz_Mod, cx_Mod.1, cx_Mod.2, by decide +kernel⟩
set_option maxRecDepth 100000 in
theorem mi_Mod_back : Cond.instanceMethod y_Mod_back.1 ∈ gtb := (gk_6 (List.mem_of_getElem? (i := 186) rfl) rfl)
set_option maxRecDepth 100000 in
theorem mv_Mod_back : Cond.selects y_Mod_back.1.cls y_Mod_back.1 y_Mod_back.1 ∈ gtb := (gk_6 (List.mem_of_getElem? (i := 187) rfl) rfl)
set_option maxRecDepth 100000 in
theorem mo_Law0_22 : mOk R_law 22 1 y_Mod_back := ⟨Or.inl (gk_6 (List.mem_of_getElem? (i := 185) rfl) rfl), mk_Mod_back⟩
set_option maxRecDepth 100000 in
theorem mk_Main_read : Cond.code y_Main_read.1 y_Main_read.2.1 y_Main_read.2.2.1 y_Main_read.2.2.2.1 ∈ gtb ∧ Cond.initialized y_Main_read.1.cls ∈ gtb ∧ y_Main_read.1.cls ≠ "java/lang/invoke/MethodHandle" ∧ y_Main_read.1.cls ≠ "java/lang/invoke/VarHandle" ∧ (parseMethodDescriptor y_Main_read.1.desc).map (fun d => d.parameters.length) = some 0 := ⟨(gk_3 (List.mem_of_getElem? (i := 40) rfl) rfl), cz_Main, cx_Main.1, cx_Main.2, by decide +kernel⟩
set_option maxRecDepth 100000 in
theorem mi_Main_read : Cond.instanceMethod y_Main_read.1 ∈ gtb := (gk_3 (List.mem_of_getElem? (i := 38) rfl) rfl)
set_option maxRecDepth 100000 in
theorem mv_Main_read : Cond.selects y_Main_read.1.cls y_Main_read.1 y_Main_read.1 ∈ gtb := (gk_3 (List.mem_of_getElem? (i := 39) rfl) rfl)
set_option maxRecDepth 100000 in
theorem mo_Law0_23 : mOk R_law 23 0 y_Main_read := ⟨Or.inl (gk_3 (List.mem_of_getElem? (i := 37) rfl) rfl), mk_Main_read⟩
set_option maxRecDepth 100000 in
theorem mk_Mod_read : Cond.code y_Mod_read.1 y_Mod_read.2.1 y_Mod_read.2.2.1 y_Mod_read.2.2.2.1 ∈ gtb ∧ Cond.initialized y_Mod_read.1.cls ∈ gtb ∧ y_Mod_read.1.cls ≠ "java/lang/invoke/MethodHandle" ∧ y_Mod_read.1.cls ≠ "java/lang/invoke/VarHandle" ∧ (parseMethodDescriptor y_Mod_read.1.desc).map (fun d => d.parameters.length) = some 0 := ⟨(gk_6 (List.mem_of_getElem? (i := 192) rfl) rfl), cz_Mod, cx_Mod.1, cx_Mod.2, by decide +kernel⟩
set_option maxRecDepth 100000 in
theorem mi_Mod_read : Cond.instanceMethod y_Mod_read.1 ∈ gtb := (gk_6 (List.mem_of_getElem? (i := 190) rfl) rfl)
set_option maxRecDepth 100000 in
theorem mv_Mod_read : Cond.selects y_Mod_read.1.cls y_Mod_read.1 y_Mod_read.1 ∈ gtb := (gk_6 (List.mem_of_getElem? (i := 191) rfl) rfl)
set_option maxRecDepth 100000 in
theorem mo_Law0_27 : mOk R_law 27 0 y_Mod_read := ⟨Or.inl (gk_6 (List.mem_of_getElem? (i := 189) rfl) rfl), mk_Mod_read⟩
set_option maxRecDepth 100000 in
theorem mk_Main_place : Cond.code y_Main_place.1 y_Main_place.2.1 y_Main_place.2.2.1 y_Main_place.2.2.2.1 ∈ gtb ∧ Cond.initialized y_Main_place.1.cls ∈ gtb ∧ y_Main_place.1.cls ≠ "java/lang/invoke/MethodHandle" ∧ y_Main_place.1.cls ≠ "java/lang/invoke/VarHandle" ∧ (parseMethodDescriptor y_Main_place.1.desc).map (fun d => d.parameters.length) = some 0 := ⟨(gk_4 (List.mem_of_getElem? (i := 3) rfl) rfl), cz_Main, cx_Main.1, cx_Main.2, by decide +kernel⟩
set_option maxRecDepth 100000 in
theorem mi_Main_place : Cond.instanceMethod y_Main_place.1 ∈ gtb := (gk_4 (List.mem_of_getElem? (i := 1) rfl) rfl)
set_option maxRecDepth 100000 in
theorem mv_Main_place : Cond.selects y_Main_place.1.cls y_Main_place.1 y_Main_place.1 ∈ gtb := (gk_4 (List.mem_of_getElem? (i := 2) rfl) rfl)
set_option maxRecDepth 100000 in
theorem mo_Law0_28 : mOk R_law 28 0 y_Main_place := ⟨Or.inl (gk_4 (List.mem_of_getElem? (i := 0) rfl) rfl), mk_Main_place⟩
set_option maxRecDepth 100000 in
theorem mk_Mod_place : Cond.code y_Mod_place.1 y_Mod_place.2.1 y_Mod_place.2.2.1 y_Mod_place.2.2.2.1 ∈ gtb ∧ Cond.initialized y_Mod_place.1.cls ∈ gtb ∧ y_Mod_place.1.cls ≠ "java/lang/invoke/MethodHandle" ∧ y_Mod_place.1.cls ≠ "java/lang/invoke/VarHandle" ∧ (parseMethodDescriptor y_Mod_place.1.desc).map (fun d => d.parameters.length) = some 0 := ⟨(gk_7 (List.mem_of_getElem? (i := 54) rfl) rfl), cz_Mod, cx_Mod.1, cx_Mod.2, by decide +kernel⟩
set_option maxRecDepth 100000 in
theorem mi_Mod_place : Cond.instanceMethod y_Mod_place.1 ∈ gtb := (gk_7 (List.mem_of_getElem? (i := 52) rfl) rfl)
set_option maxRecDepth 100000 in
theorem mv_Mod_place : Cond.selects y_Mod_place.1.cls y_Mod_place.1 y_Mod_place.1 ∈ gtb := (gk_7 (List.mem_of_getElem? (i := 53) rfl) rfl)
set_option maxRecDepth 100000 in
theorem mo_Law0_31 : mOk R_law 31 0 y_Mod_place := ⟨Or.inl (gk_7 (List.mem_of_getElem? (i := 51) rfl) rfl), mk_Mod_place⟩
set_option maxRecDepth 100000 in
theorem mk_Main_food : Cond.code y_Main_food.1 y_Main_food.2.1 y_Main_food.2.2.1 y_Main_food.2.2.2.1 ∈ gtb ∧ Cond.initialized y_Main_food.1.cls ∈ gtb ∧ y_Main_food.1.cls ≠ "java/lang/invoke/MethodHandle" ∧ y_Main_food.1.cls ≠ "java/lang/invoke/VarHandle" ∧ (parseMethodDescriptor y_Main_food.1.desc).map (fun d => d.parameters.length) = some 2 := ⟨(gk_4 (List.mem_of_getElem? (i := 7) rfl) rfl), cz_Main, cx_Main.1, cx_Main.2, by decide +kernel⟩
set_option maxRecDepth 100000 in
theorem mi_Main_food : Cond.instanceMethod y_Main_food.1 ∈ gtb := (gk_4 (List.mem_of_getElem? (i := 5) rfl) rfl)
set_option maxRecDepth 100000 in
theorem mv_Main_food : Cond.selects y_Main_food.1.cls y_Main_food.1 y_Main_food.1 ∈ gtb := (gk_4 (List.mem_of_getElem? (i := 6) rfl) rfl)
set_option maxRecDepth 100000 in
theorem mo_Law0_32 : mOk R_law 32 2 y_Main_food := ⟨Or.inl (gk_4 (List.mem_of_getElem? (i := 4) rfl) rfl), mk_Main_food⟩
set_option maxRecDepth 100000 in
theorem mk_Mod_food : Cond.code y_Mod_food.1 y_Mod_food.2.1 y_Mod_food.2.2.1 y_Mod_food.2.2.2.1 ∈ gtb ∧ Cond.initialized y_Mod_food.1.cls ∈ gtb ∧ y_Mod_food.1.cls ≠ "java/lang/invoke/MethodHandle" ∧ y_Mod_food.1.cls ≠ "java/lang/invoke/VarHandle" ∧ (parseMethodDescriptor y_Mod_food.1.desc).map (fun d => d.parameters.length) = some 2 := ⟨(gk_7 (List.mem_of_getElem? (i := 58) rfl) rfl), cz_Mod, cx_Mod.1, cx_Mod.2, by decide +kernel⟩
set_option maxRecDepth 100000 in
theorem mi_Mod_food : Cond.instanceMethod y_Mod_food.1 ∈ gtb := (gk_7 (List.mem_of_getElem? (i := 56) rfl) rfl)
set_option maxRecDepth 100000 in
theorem mv_Mod_food : Cond.selects y_Mod_food.1.cls y_Mod_food.1 y_Mod_food.1 ∈ gtb := (gk_7 (List.mem_of_getElem? (i := 57) rfl) rfl)
set_option maxRecDepth 100000 in
theorem mo_Law0_36 : mOk R_law 36 2 y_Mod_food := ⟨Or.inl (gk_7 (List.mem_of_getElem? (i := 55) rfl) rfl), mk_Mod_food⟩
set_option maxRecDepth 100000 in
theorem mk_Main_dish : Cond.code y_Main_dish.1 y_Main_dish.2.1 y_Main_dish.2.2.1 y_Main_dish.2.2.2.1 ∈ gtb ∧ Cond.initialized y_Main_dish.1.cls ∈ gtb ∧ y_Main_dish.1.cls ≠ "java/lang/invoke/MethodHandle" ∧ y_Main_dish.1.cls ≠ "java/lang/invoke/VarHandle" ∧ (parseMethodDescriptor y_Main_dish.1.desc).map (fun d => d.parameters.length) = some 2 := ⟨(gk_4 (List.mem_of_getElem? (i := 17) rfl) rfl), cz_Main, cx_Main.1, cx_Main.2, by decide +kernel⟩
set_option maxRecDepth 100000 in
theorem mi_Main_dish : Cond.instanceMethod y_Main_dish.1 ∈ gtb := (gk_4 (List.mem_of_getElem? (i := 15) rfl) rfl)
set_option maxRecDepth 100000 in
theorem mv_Main_dish : Cond.selects y_Main_dish.1.cls y_Main_dish.1 y_Main_dish.1 ∈ gtb := (gk_4 (List.mem_of_getElem? (i := 16) rfl) rfl)
set_option maxRecDepth 100000 in
theorem mo_Law0_37 : mOk R_law 37 2 y_Main_dish := ⟨Or.inl (gk_4 (List.mem_of_getElem? (i := 14) rfl) rfl), mk_Main_dish⟩
set_option maxRecDepth 100000 in
theorem mk_Mod_dish : Cond.code y_Mod_dish.1 y_Mod_dish.2.1 y_Mod_dish.2.2.1 y_Mod_dish.2.2.2.1 ∈ gtb ∧ Cond.initialized y_Mod_dish.1.cls ∈ gtb ∧ y_Mod_dish.1.cls ≠ "java/lang/invoke/MethodHandle" ∧ y_Mod_dish.1.cls ≠ "java/lang/invoke/VarHandle" ∧ (parseMethodDescriptor y_Mod_dish.1.desc).map (fun d => d.parameters.length) = some 2 := ⟨(gk_7 (List.mem_of_getElem? (i := 69) rfl) rfl), cz_Mod, cx_Mod.1, cx_Mod.2, by decide +kernel⟩
set_option maxRecDepth 100000 in
theorem mi_Mod_dish : Cond.instanceMethod y_Mod_dish.1 ∈ gtb := (gk_7 (List.mem_of_getElem? (i := 67) rfl) rfl)
set_option maxRecDepth 100000 in
theorem mv_Mod_dish : Cond.selects y_Mod_dish.1.cls y_Mod_dish.1 y_Mod_dish.1 ∈ gtb := (gk_7 (List.mem_of_getElem? (i := 68) rfl) rfl)
set_option maxRecDepth 100000 in
theorem mo_Law0_40 : mOk R_law 40 2 y_Mod_dish := ⟨Or.inl (gk_7 (List.mem_of_getElem? (i := 66) rfl) rfl), mk_Mod_dish⟩
set_option maxRecDepth 100000 in
theorem mk_Main_amount : Cond.code y_Main_amount.1 y_Main_amount.2.1 y_Main_amount.2.2.1 y_Main_amount.2.2.2.1 ∈ gtb ∧ Cond.initialized y_Main_amount.1.cls ∈ gtb ∧ y_Main_amount.1.cls ≠ "java/lang/invoke/MethodHandle" ∧ y_Main_amount.1.cls ≠ "java/lang/invoke/VarHandle" ∧ (parseMethodDescriptor y_Main_amount.1.desc).map (fun d => d.parameters.length) = some 2 := ⟨(gk_4 (List.mem_of_getElem? (i := 69) rfl) rfl), cz_Main, cx_Main.1, cx_Main.2, by decide +kernel⟩
set_option maxRecDepth 100000 in
theorem mi_Main_amount : Cond.instanceMethod y_Main_amount.1 ∈ gtb := (gk_4 (List.mem_of_getElem? (i := 67) rfl) rfl)
set_option maxRecDepth 100000 in
theorem mv_Main_amount : Cond.selects y_Main_amount.1.cls y_Main_amount.1 y_Main_amount.1 ∈ gtb := (gk_4 (List.mem_of_getElem? (i := 68) rfl) rfl)
set_option maxRecDepth 100000 in
theorem mo_Law0_41 : mOk R_law 41 2 y_Main_amount := ⟨Or.inl (gk_4 (List.mem_of_getElem? (i := 66) rfl) rfl), mk_Main_amount⟩
set_option maxRecDepth 100000 in
theorem mk_Mod_amount : Cond.code y_Mod_amount.1 y_Mod_amount.2.1 y_Mod_amount.2.2.1 y_Mod_amount.2.2.2.1 ∈ gtb ∧ Cond.initialized y_Mod_amount.1.cls ∈ gtb ∧ y_Mod_amount.1.cls ≠ "java/lang/invoke/MethodHandle" ∧ y_Mod_amount.1.cls ≠ "java/lang/invoke/VarHandle" ∧ (parseMethodDescriptor y_Mod_amount.1.desc).map (fun d => d.parameters.length) = some 2 := ⟨(gk_7 (List.mem_of_getElem? (i := 116) rfl) rfl), cz_Mod, cx_Mod.1, cx_Mod.2, by decide +kernel⟩
set_option maxRecDepth 100000 in
theorem mi_Mod_amount : Cond.instanceMethod y_Mod_amount.1 ∈ gtb := (gk_7 (List.mem_of_getElem? (i := 114) rfl) rfl)
set_option maxRecDepth 100000 in
theorem mv_Mod_amount : Cond.selects y_Mod_amount.1.cls y_Mod_amount.1 y_Mod_amount.1 ∈ gtb := (gk_7 (List.mem_of_getElem? (i := 115) rfl) rfl)
set_option maxRecDepth 100000 in
theorem mo_Law0_44 : mOk R_law 44 2 y_Mod_amount := ⟨Or.inl (gk_7 (List.mem_of_getElem? (i := 113) rfl) rfl), mk_Mod_amount⟩
set_option maxRecDepth 100000 in
theorem mk_Main_guest : Cond.code y_Main_guest.1 y_Main_guest.2.1 y_Main_guest.2.2.1 y_Main_guest.2.2.2.1 ∈ gtb ∧ Cond.initialized y_Main_guest.1.cls ∈ gtb ∧ y_Main_guest.1.cls ≠ "java/lang/invoke/MethodHandle" ∧ y_Main_guest.1.cls ≠ "java/lang/invoke/VarHandle" ∧ (parseMethodDescriptor y_Main_guest.1.desc).map (fun d => d.parameters.length) = some 2 := ⟨(gk_4 (List.mem_of_getElem? (i := 74) rfl) rfl), cz_Main, cx_Main.1, cx_Main.2, by decide +kernel⟩
set_option maxRecDepth 100000 in
theorem mi_Main_guest : Cond.instanceMethod y_Main_guest.1 ∈ gtb := (gk_4 (List.mem_of_getElem? (i := 72) rfl) rfl)
set_option maxRecDepth 100000 in
theorem mv_Main_guest : Cond.selects y_Main_guest.1.cls y_Main_guest.1 y_Main_guest.1 ∈ gtb := (gk_4 (List.mem_of_getElem? (i := 73) rfl) rfl)
set_option maxRecDepth 100000 in
theorem mo_Law0_45 : mOk R_law 45 2 y_Main_guest := ⟨Or.inl (gk_4 (List.mem_of_getElem? (i := 71) rfl) rfl), mk_Main_guest⟩
set_option maxRecDepth 100000 in
theorem mk_Mod_guest : Cond.code y_Mod_guest.1 y_Mod_guest.2.1 y_Mod_guest.2.2.1 y_Mod_guest.2.2.2.1 ∈ gtb ∧ Cond.initialized y_Mod_guest.1.cls ∈ gtb ∧ y_Mod_guest.1.cls ≠ "java/lang/invoke/MethodHandle" ∧ y_Mod_guest.1.cls ≠ "java/lang/invoke/VarHandle" ∧ (parseMethodDescriptor y_Mod_guest.1.desc).map (fun d => d.parameters.length) = some 2 := ⟨(gk_7 (List.mem_of_getElem? (i := 120) rfl) rfl), cz_Mod, cx_Mod.1, cx_Mod.2, by decide +kernel⟩
set_option maxRecDepth 100000 in
theorem mi_Mod_guest : Cond.instanceMethod y_Mod_guest.1 ∈ gtb := (gk_7 (List.mem_of_getElem? (i := 118) rfl) rfl)
set_option maxRecDepth 100000 in
theorem mv_Mod_guest : Cond.selects y_Mod_guest.1.cls y_Mod_guest.1 y_Mod_guest.1 ∈ gtb := (gk_7 (List.mem_of_getElem? (i := 119) rfl) rfl)
set_option maxRecDepth 100000 in
theorem mo_Law0_48 : mOk R_law 48 2 y_Mod_guest := ⟨Or.inl (gk_7 (List.mem_of_getElem? (i := 117) rfl) rfl), mk_Mod_guest⟩
set_option maxRecDepth 100000 in
theorem mk_Main_deed : Cond.code y_Main_deed.1 y_Main_deed.2.1 y_Main_deed.2.2.1 y_Main_deed.2.2.2.1 ∈ gtb ∧ Cond.initialized y_Main_deed.1.cls ∈ gtb ∧ y_Main_deed.1.cls ≠ "java/lang/invoke/MethodHandle" ∧ y_Main_deed.1.cls ≠ "java/lang/invoke/VarHandle" ∧ (parseMethodDescriptor y_Main_deed.1.desc).map (fun d => d.parameters.length) = some 2 := ⟨(gk_4 (List.mem_of_getElem? (i := 96) rfl) rfl), cz_Main, cx_Main.1, cx_Main.2, by decide +kernel⟩
set_option maxRecDepth 100000 in
theorem mi_Main_deed : Cond.instanceMethod y_Main_deed.1 ∈ gtb := (gk_4 (List.mem_of_getElem? (i := 94) rfl) rfl)
set_option maxRecDepth 100000 in
theorem mv_Main_deed : Cond.selects y_Main_deed.1.cls y_Main_deed.1 y_Main_deed.1 ∈ gtb := (gk_4 (List.mem_of_getElem? (i := 95) rfl) rfl)
set_option maxRecDepth 100000 in
theorem mo_Law0_49 : mOk R_law 49 2 y_Main_deed := ⟨Or.inl (gk_4 (List.mem_of_getElem? (i := 93) rfl) rfl), mk_Main_deed⟩
set_option maxRecDepth 100000 in
theorem mk_Mod_deed : Cond.code y_Mod_deed.1 y_Mod_deed.2.1 y_Mod_deed.2.2.1 y_Mod_deed.2.2.2.1 ∈ gtb ∧ Cond.initialized y_Mod_deed.1.cls ∈ gtb ∧ y_Mod_deed.1.cls ≠ "java/lang/invoke/MethodHandle" ∧ y_Mod_deed.1.cls ≠ "java/lang/invoke/VarHandle" ∧ (parseMethodDescriptor y_Mod_deed.1.desc).map (fun d => d.parameters.length) = some 2 := ⟨(gk_7 (List.mem_of_getElem? (i := 136) rfl) rfl), cz_Mod, cx_Mod.1, cx_Mod.2, by decide +kernel⟩
set_option maxRecDepth 100000 in
theorem mi_Mod_deed : Cond.instanceMethod y_Mod_deed.1 ∈ gtb := (gk_7 (List.mem_of_getElem? (i := 134) rfl) rfl)
set_option maxRecDepth 100000 in
theorem mv_Mod_deed : Cond.selects y_Mod_deed.1.cls y_Mod_deed.1 y_Mod_deed.1 ∈ gtb := (gk_7 (List.mem_of_getElem? (i := 135) rfl) rfl)
set_option maxRecDepth 100000 in
theorem mo_Law0_52 : mOk R_law 52 2 y_Mod_deed := ⟨Or.inl (gk_7 (List.mem_of_getElem? (i := 133) rfl) rfl), mk_Mod_deed⟩
set_option maxRecDepth 100000 in
theorem mk_Main_cook : Cond.code y_Main_cook.1 y_Main_cook.2.1 y_Main_cook.2.2.1 y_Main_cook.2.2.2.1 ∈ gtb ∧ Cond.initialized y_Main_cook.1.cls ∈ gtb ∧ y_Main_cook.1.cls ≠ "java/lang/invoke/MethodHandle" ∧ y_Main_cook.1.cls ≠ "java/lang/invoke/VarHandle" ∧ (parseMethodDescriptor y_Main_cook.1.desc).map (fun d => d.parameters.length) = some 1 := ⟨(gk_4 (List.mem_of_getElem? (i := 116) rfl) rfl), cz_Main, cx_Main.1, cx_Main.2, by decide +kernel⟩
set_option maxRecDepth 100000 in
theorem mi_Main_cook : Cond.instanceMethod y_Main_cook.1 ∈ gtb := (gk_4 (List.mem_of_getElem? (i := 114) rfl) rfl)
set_option maxRecDepth 100000 in
theorem mv_Main_cook : Cond.selects y_Main_cook.1.cls y_Main_cook.1 y_Main_cook.1 ∈ gtb := (gk_4 (List.mem_of_getElem? (i := 115) rfl) rfl)
set_option maxRecDepth 100000 in
theorem mo_Law0_53 : mOk R_law 53 1 y_Main_cook := ⟨Or.inl (gk_4 (List.mem_of_getElem? (i := 113) rfl) rfl), mk_Main_cook⟩
set_option maxRecDepth 100000 in
theorem mk_Mod_cook : Cond.code y_Mod_cook.1 y_Mod_cook.2.1 y_Mod_cook.2.2.1 y_Mod_cook.2.2.2.1 ∈ gtb ∧ Cond.initialized y_Mod_cook.1.cls ∈ gtb ∧ y_Mod_cook.1.cls ≠ "java/lang/invoke/MethodHandle" ∧ y_Mod_cook.1.cls ≠ "java/lang/invoke/VarHandle" ∧ (parseMethodDescriptor y_Mod_cook.1.desc).map (fun d => d.parameters.length) = some 1 := ⟨(gk_7 (List.mem_of_getElem? (i := 148) rfl) rfl), cz_Mod, cx_Mod.1, cx_Mod.2, by decide +kernel⟩
set_option maxRecDepth 100000 in
theorem mi_Mod_cook : Cond.instanceMethod y_Mod_cook.1 ∈ gtb := (gk_7 (List.mem_of_getElem? (i := 146) rfl) rfl)
set_option maxRecDepth 100000 in
theorem mv_Mod_cook : Cond.selects y_Mod_cook.1.cls y_Mod_cook.1 y_Mod_cook.1 ∈ gtb := (gk_7 (List.mem_of_getElem? (i := 147) rfl) rfl)
set_option maxRecDepth 100000 in
theorem mo_Law0_56 : mOk R_law 56 1 y_Mod_cook := ⟨Or.inl (gk_7 (List.mem_of_getElem? (i := 145) rfl) rfl), mk_Mod_cook⟩
set_option maxRecDepth 100000 in
theorem mk_Main_eat : Cond.code y_Main_eat.1 y_Main_eat.2.1 y_Main_eat.2.2.1 y_Main_eat.2.2.2.1 ∈ gtb ∧ Cond.initialized y_Main_eat.1.cls ∈ gtb ∧ y_Main_eat.1.cls ≠ "java/lang/invoke/MethodHandle" ∧ y_Main_eat.1.cls ≠ "java/lang/invoke/VarHandle" ∧ (parseMethodDescriptor y_Main_eat.1.desc).map (fun d => d.parameters.length) = some 1 := ⟨(gk_4 (List.mem_of_getElem? (i := 158) rfl) rfl), cz_Main, cx_Main.1, cx_Main.2, by decide +kernel⟩
set_option maxRecDepth 100000 in
theorem mi_Main_eat : Cond.instanceMethod y_Main_eat.1 ∈ gtb := (gk_4 (List.mem_of_getElem? (i := 156) rfl) rfl)
set_option maxRecDepth 100000 in
theorem mv_Main_eat : Cond.selects y_Main_eat.1.cls y_Main_eat.1 y_Main_eat.1 ∈ gtb := (gk_4 (List.mem_of_getElem? (i := 157) rfl) rfl)
set_option maxRecDepth 100000 in
theorem mo_Law0_57 : mOk R_law 57 1 y_Main_eat := ⟨Or.inl (gk_4 (List.mem_of_getElem? (i := 155) rfl) rfl), mk_Main_eat⟩
set_option maxRecDepth 100000 in
theorem mk_Mod_eat : Cond.code y_Mod_eat.1 y_Mod_eat.2.1 y_Mod_eat.2.2.1 y_Mod_eat.2.2.2.1 ∈ gtb ∧ Cond.initialized y_Mod_eat.1.cls ∈ gtb ∧ y_Mod_eat.1.cls ≠ "java/lang/invoke/MethodHandle" ∧ y_Mod_eat.1.cls ≠ "java/lang/invoke/VarHandle" ∧ (parseMethodDescriptor y_Mod_eat.1.desc).map (fun d => d.parameters.length) = some 1 := ⟨(gk_7 (List.mem_of_getElem? (i := 172) rfl) rfl), cz_Mod, cx_Mod.1, cx_Mod.2, by decide +kernel⟩
set_option maxRecDepth 100000 in
theorem mi_Mod_eat : Cond.instanceMethod y_Mod_eat.1 ∈ gtb := (gk_7 (List.mem_of_getElem? (i := 170) rfl) rfl)
set_option maxRecDepth 100000 in
theorem mv_Mod_eat : Cond.selects y_Mod_eat.1.cls y_Mod_eat.1 y_Mod_eat.1 ∈ gtb := (gk_7 (List.mem_of_getElem? (i := 171) rfl) rfl)
set_option maxRecDepth 100000 in
theorem mo_Law0_60 : mOk R_law 60 1 y_Mod_eat := ⟨Or.inl (gk_7 (List.mem_of_getElem? (i := 169) rfl) rfl), mk_Mod_eat⟩
set_option maxRecDepth 100000 in
theorem mk_Main_days : Cond.code y_Main_days.1 y_Main_days.2.1 y_Main_days.2.2.1 y_Main_days.2.2.2.1 ∈ gtb ∧ Cond.initialized y_Main_days.1.cls ∈ gtb ∧ y_Main_days.1.cls ≠ "java/lang/invoke/MethodHandle" ∧ y_Main_days.1.cls ≠ "java/lang/invoke/VarHandle" ∧ (parseMethodDescriptor y_Main_days.1.desc).map (fun d => d.parameters.length) = some 1 := ⟨(gk_4 (List.mem_of_getElem? (i := 166) rfl) rfl), cz_Main, cx_Main.1, cx_Main.2, by decide +kernel⟩
set_option maxRecDepth 100000 in
theorem mi_Main_days : Cond.instanceMethod y_Main_days.1 ∈ gtb := (gk_4 (List.mem_of_getElem? (i := 164) rfl) rfl)
set_option maxRecDepth 100000 in
theorem mv_Main_days : Cond.selects y_Main_days.1.cls y_Main_days.1 y_Main_days.1 ∈ gtb := (gk_4 (List.mem_of_getElem? (i := 165) rfl) rfl)
set_option maxRecDepth 100000 in
theorem mo_Law0_61 : mOk R_law 61 1 y_Main_days := ⟨Or.inl (gk_4 (List.mem_of_getElem? (i := 163) rfl) rfl), mk_Main_days⟩
set_option maxRecDepth 100000 in
theorem mk_Mod_days : Cond.code y_Mod_days.1 y_Mod_days.2.1 y_Mod_days.2.2.1 y_Mod_days.2.2.2.1 ∈ gtb ∧ Cond.initialized y_Mod_days.1.cls ∈ gtb ∧ y_Mod_days.1.cls ≠ "java/lang/invoke/MethodHandle" ∧ y_Mod_days.1.cls ≠ "java/lang/invoke/VarHandle" ∧ (parseMethodDescriptor y_Mod_days.1.desc).map (fun d => d.parameters.length) = some 1 := ⟨(gk_7 (List.mem_of_getElem? (i := 180) rfl) rfl), cz_Mod, cx_Mod.1, cx_Mod.2, by decide +kernel⟩
set_option maxRecDepth 100000 in
theorem mi_Mod_days : Cond.instanceMethod y_Mod_days.1 ∈ gtb := (gk_7 (List.mem_of_getElem? (i := 178) rfl) rfl)
set_option maxRecDepth 100000 in
theorem mv_Mod_days : Cond.selects y_Mod_days.1.cls y_Mod_days.1 y_Mod_days.1 ∈ gtb := (gk_7 (List.mem_of_getElem? (i := 179) rfl) rfl)
set_option maxRecDepth 100000 in
theorem mo_Law0_64 : mOk R_law 64 1 y_Mod_days := ⟨Or.inl (gk_7 (List.mem_of_getElem? (i := 177) rfl) rfl), mk_Mod_days⟩
set_option maxRecDepth 100000 in
theorem mk_Main_undo : Cond.code y_Main_undo.1 y_Main_undo.2.1 y_Main_undo.2.2.1 y_Main_undo.2.2.2.1 ∈ gtb ∧ Cond.initialized y_Main_undo.1.cls ∈ gtb ∧ y_Main_undo.1.cls ≠ "java/lang/invoke/MethodHandle" ∧ y_Main_undo.1.cls ≠ "java/lang/invoke/VarHandle" ∧ (parseMethodDescriptor y_Main_undo.1.desc).map (fun d => d.parameters.length) = some 0 := ⟨(gk_4 (List.mem_of_getElem? (i := 179) rfl) rfl), cz_Main, cx_Main.1, cx_Main.2, by decide +kernel⟩
set_option maxRecDepth 100000 in
theorem mi_Main_undo : Cond.instanceMethod y_Main_undo.1 ∈ gtb := (gk_4 (List.mem_of_getElem? (i := 177) rfl) rfl)
set_option maxRecDepth 100000 in
theorem mv_Main_undo : Cond.selects y_Main_undo.1.cls y_Main_undo.1 y_Main_undo.1 ∈ gtb := (gk_4 (List.mem_of_getElem? (i := 178) rfl) rfl)
set_option maxRecDepth 100000 in
theorem mo_Law0_65 : mOk R_law 65 0 y_Main_undo := ⟨Or.inl (gk_4 (List.mem_of_getElem? (i := 176) rfl) rfl), mk_Main_undo⟩
set_option maxRecDepth 100000 in
theorem mk_Mod_undo : Cond.code y_Mod_undo.1 y_Mod_undo.2.1 y_Mod_undo.2.2.1 y_Mod_undo.2.2.2.1 ∈ gtb ∧ Cond.initialized y_Mod_undo.1.cls ∈ gtb ∧ y_Mod_undo.1.cls ≠ "java/lang/invoke/MethodHandle" ∧ y_Mod_undo.1.cls ≠ "java/lang/invoke/VarHandle" ∧ (parseMethodDescriptor y_Mod_undo.1.desc).map (fun d => d.parameters.length) = some 0 := ⟨(gk_7 (List.mem_of_getElem? (i := 192) rfl) rfl), cz_Mod, cx_Mod.1, cx_Mod.2, by decide +kernel⟩
set_option maxRecDepth 100000 in
theorem mi_Mod_undo : Cond.instanceMethod y_Mod_undo.1 ∈ gtb := (gk_7 (List.mem_of_getElem? (i := 190) rfl) rfl)
set_option maxRecDepth 100000 in
theorem mv_Mod_undo : Cond.selects y_Mod_undo.1.cls y_Mod_undo.1 y_Mod_undo.1 ∈ gtb := (gk_7 (List.mem_of_getElem? (i := 191) rfl) rfl)
set_option maxRecDepth 100000 in
theorem mo_Law0_69 : mOk R_law 69 0 y_Mod_undo := ⟨Or.inl (gk_7 (List.mem_of_getElem? (i := 189) rfl) rfl), mk_Mod_undo⟩
set_option maxRecDepth 100000 in
theorem mk_Main_pot : Cond.code y_Main_pot.1 y_Main_pot.2.1 y_Main_pot.2.2.1 y_Main_pot.2.2.2.1 ∈ gtb ∧ Cond.initialized y_Main_pot.1.cls ∈ gtb ∧ y_Main_pot.1.cls ≠ "java/lang/invoke/MethodHandle" ∧ y_Main_pot.1.cls ≠ "java/lang/invoke/VarHandle" ∧ (parseMethodDescriptor y_Main_pot.1.desc).map (fun d => d.parameters.length) = some 4 := ⟨(gk_4 (List.mem_of_getElem? (i := 187) rfl) rfl), cz_Main, cx_Main.1, cx_Main.2, by decide +kernel⟩
set_option maxRecDepth 100000 in
theorem mi_Main_pot : Cond.instanceMethod y_Main_pot.1 ∈ gtb := (gk_4 (List.mem_of_getElem? (i := 185) rfl) rfl)
set_option maxRecDepth 100000 in
theorem mv_Main_pot : Cond.selects y_Main_pot.1.cls y_Main_pot.1 y_Main_pot.1 ∈ gtb := (gk_4 (List.mem_of_getElem? (i := 186) rfl) rfl)
set_option maxRecDepth 100000 in
theorem mo_Law0_70 : mOk R_law 70 4 y_Main_pot := ⟨Or.inl (gk_4 (List.mem_of_getElem? (i := 184) rfl) rfl), mk_Main_pot⟩
set_option maxRecDepth 100000 in
theorem mk_Mod_pot : Cond.code y_Mod_pot.1 y_Mod_pot.2.1 y_Mod_pot.2.2.1 y_Mod_pot.2.2.2.1 ∈ gtb ∧ Cond.initialized y_Mod_pot.1.cls ∈ gtb ∧ y_Mod_pot.1.cls ≠ "java/lang/invoke/MethodHandle" ∧ y_Mod_pot.1.cls ≠ "java/lang/invoke/VarHandle" ∧ (parseMethodDescriptor y_Mod_pot.1.desc).map (fun d => d.parameters.length) = some 4 := ⟨(gk_7 (List.mem_of_getElem? (i := 196) rfl) rfl), cz_Mod, cx_Mod.1, cx_Mod.2, by decide +kernel⟩
set_option maxRecDepth 100000 in
theorem mi_Mod_pot : Cond.instanceMethod y_Mod_pot.1 ∈ gtb := (gk_7 (List.mem_of_getElem? (i := 194) rfl) rfl)
set_option maxRecDepth 100000 in
theorem mv_Mod_pot : Cond.selects y_Mod_pot.1.cls y_Mod_pot.1 y_Mod_pot.1 ∈ gtb := (gk_7 (List.mem_of_getElem? (i := 195) rfl) rfl)
set_option maxRecDepth 100000 in
theorem mo_Law0_74 : mOk R_law 74 4 y_Mod_pot := ⟨Or.inl (gk_7 (List.mem_of_getElem? (i := 193) rfl) rfl), mk_Mod_pot⟩
set_option maxRecDepth 100000 in
theorem mk_Main_pinch : Cond.code y_Main_pinch.1 y_Main_pinch.2.1 y_Main_pinch.2.2.1 y_Main_pinch.2.2.2.1 ∈ gtb ∧ Cond.initialized y_Main_pinch.1.cls ∈ gtb ∧ y_Main_pinch.1.cls ≠ "java/lang/invoke/MethodHandle" ∧ y_Main_pinch.1.cls ≠ "java/lang/invoke/VarHandle" ∧ (parseMethodDescriptor y_Main_pinch.1.desc).map (fun d => d.parameters.length) = some 2 := ⟨(gk_4 (List.mem_of_getElem? (i := 226) rfl) rfl), cz_Main, cx_Main.1, cx_Main.2, by decide +kernel⟩
set_option maxRecDepth 100000 in
theorem mi_Main_pinch : Cond.instanceMethod y_Main_pinch.1 ∈ gtb := (gk_4 (List.mem_of_getElem? (i := 224) rfl) rfl)
set_option maxRecDepth 100000 in
theorem mv_Main_pinch : Cond.selects y_Main_pinch.1.cls y_Main_pinch.1 y_Main_pinch.1 ∈ gtb := (gk_4 (List.mem_of_getElem? (i := 225) rfl) rfl)
set_option maxRecDepth 100000 in
theorem mo_Law0_75 : mOk R_law 75 2 y_Main_pinch := ⟨Or.inl (gk_4 (List.mem_of_getElem? (i := 223) rfl) rfl), mk_Main_pinch⟩
set_option maxRecDepth 100000 in
theorem mk_Mod_pinch : Cond.code y_Mod_pinch.1 y_Mod_pinch.2.1 y_Mod_pinch.2.2.1 y_Mod_pinch.2.2.2.1 ∈ gtb ∧ Cond.initialized y_Mod_pinch.1.cls ∈ gtb ∧ y_Mod_pinch.1.cls ≠ "java/lang/invoke/MethodHandle" ∧ y_Mod_pinch.1.cls ≠ "java/lang/invoke/VarHandle" ∧ (parseMethodDescriptor y_Mod_pinch.1.desc).map (fun d => d.parameters.length) = some 2 := ⟨(gk_7 (List.mem_of_getElem? (i := 215) rfl) rfl), cz_Mod, cx_Mod.1, cx_Mod.2, by decide +kernel⟩
set_option maxRecDepth 100000 in
theorem mi_Mod_pinch : Cond.instanceMethod y_Mod_pinch.1 ∈ gtb := (gk_7 (List.mem_of_getElem? (i := 213) rfl) rfl)
set_option maxRecDepth 100000 in
theorem mv_Mod_pinch : Cond.selects y_Mod_pinch.1.cls y_Mod_pinch.1 y_Mod_pinch.1 ∈ gtb := (gk_7 (List.mem_of_getElem? (i := 214) rfl) rfl)
set_option maxRecDepth 100000 in
theorem mo_Law0_78 : mOk R_law 78 2 y_Mod_pinch := ⟨Or.inl (gk_7 (List.mem_of_getElem? (i := 212) rfl) rfl), mk_Mod_pinch⟩
set_option maxRecDepth 100000 in
theorem mk_Main_freest : Cond.code y_Main_freest.1 y_Main_freest.2.1 y_Main_freest.2.2.1 y_Main_freest.2.2.2.1 ∈ gtb ∧ Cond.initialized y_Main_freest.1.cls ∈ gtb ∧ y_Main_freest.1.cls ≠ "java/lang/invoke/MethodHandle" ∧ y_Main_freest.1.cls ≠ "java/lang/invoke/VarHandle" ∧ (parseMethodDescriptor y_Main_freest.1.desc).map (fun d => d.parameters.length) = some 2 := ⟨(gk_4 (List.mem_of_getElem? (i := 237) rfl) rfl), cz_Main, cx_Main.1, cx_Main.2, by decide +kernel⟩
set_option maxRecDepth 100000 in
theorem mi_Main_freest : Cond.instanceMethod y_Main_freest.1 ∈ gtb := (gk_4 (List.mem_of_getElem? (i := 235) rfl) rfl)
set_option maxRecDepth 100000 in
theorem mv_Main_freest : Cond.selects y_Main_freest.1.cls y_Main_freest.1 y_Main_freest.1 ∈ gtb := (gk_4 (List.mem_of_getElem? (i := 236) rfl) rfl)
set_option maxRecDepth 100000 in
theorem mo_Law0_79 : mOk R_law 79 2 y_Main_freest := ⟨Or.inl (gk_4 (List.mem_of_getElem? (i := 234) rfl) rfl), mk_Main_freest⟩
set_option maxRecDepth 100000 in
theorem mk_Mod_freest : Cond.code y_Mod_freest.1 y_Mod_freest.2.1 y_Mod_freest.2.2.1 y_Mod_freest.2.2.2.1 ∈ gtb ∧ Cond.initialized y_Mod_freest.1.cls ∈ gtb ∧ y_Mod_freest.1.cls ≠ "java/lang/invoke/MethodHandle" ∧ y_Mod_freest.1.cls ≠ "java/lang/invoke/VarHandle" ∧ (parseMethodDescriptor y_Mod_freest.1.desc).map (fun d => d.parameters.length) = some 2 := ⟨(gk_7 (List.mem_of_getElem? (i := 222) rfl) rfl), cz_Mod, cx_Mod.1, cx_Mod.2, by decide +kernel⟩
set_option maxRecDepth 100000 in
theorem mi_Mod_freest : Cond.instanceMethod y_Mod_freest.1 ∈ gtb := (gk_7 (List.mem_of_getElem? (i := 220) rfl) rfl)
set_option maxRecDepth 100000 in
theorem mv_Mod_freest : Cond.selects y_Mod_freest.1.cls y_Mod_freest.1 y_Mod_freest.1 ∈ gtb := (gk_7 (List.mem_of_getElem? (i := 221) rfl) rfl)
set_option maxRecDepth 100000 in
theorem mo_Law0_82 : mOk R_law 82 2 y_Mod_freest := ⟨Or.inl (gk_7 (List.mem_of_getElem? (i := 219) rfl) rfl), mk_Mod_freest⟩
set_option maxRecDepth 100000 in
theorem mk_Main_supper : Cond.code y_Main_supper.1 y_Main_supper.2.1 y_Main_supper.2.2.1 y_Main_supper.2.2.2.1 ∈ gtb ∧ Cond.initialized y_Main_supper.1.cls ∈ gtb ∧ y_Main_supper.1.cls ≠ "java/lang/invoke/MethodHandle" ∧ y_Main_supper.1.cls ≠ "java/lang/invoke/VarHandle" ∧ (parseMethodDescriptor y_Main_supper.1.desc).map (fun d => d.parameters.length) = some 0 := ⟨(gk_5 (List.mem_of_getElem? (i := 23) rfl) rfl), cz_Main, cx_Main.1, cx_Main.2, by decide +kernel⟩
set_option maxRecDepth 100000 in
theorem mi_Main_supper : Cond.instanceMethod y_Main_supper.1 ∈ gtb := (gk_5 (List.mem_of_getElem? (i := 21) rfl) rfl)
set_option maxRecDepth 100000 in
theorem mv_Main_supper : Cond.selects y_Main_supper.1.cls y_Main_supper.1 y_Main_supper.1 ∈ gtb := (gk_5 (List.mem_of_getElem? (i := 22) rfl) rfl)
set_option maxRecDepth 100000 in
theorem mo_Law0_83 : mOk R_law 83 0 y_Main_supper := ⟨Or.inl (gk_5 (List.mem_of_getElem? (i := 20) rfl) rfl), mk_Main_supper⟩
set_option maxRecDepth 100000 in
theorem mk_Mod_supper : Cond.code y_Mod_supper.1 y_Mod_supper.2.1 y_Mod_supper.2.2.1 y_Mod_supper.2.2.2.1 ∈ gtb ∧ Cond.initialized y_Mod_supper.1.cls ∈ gtb ∧ y_Mod_supper.1.cls ≠ "java/lang/invoke/MethodHandle" ∧ y_Mod_supper.1.cls ≠ "java/lang/invoke/VarHandle" ∧ (parseMethodDescriptor y_Mod_supper.1.desc).map (fun d => d.parameters.length) = some 0 := ⟨(gk_7 (List.mem_of_getElem? (i := 237) rfl) rfl), cz_Mod, cx_Mod.1, cx_Mod.2, by decide +kernel⟩
set_option maxRecDepth 100000 in
theorem mi_Mod_supper : Cond.instanceMethod y_Mod_supper.1 ∈ gtb := (gk_7 (List.mem_of_getElem? (i := 235) rfl) rfl)
set_option maxRecDepth 100000 in
theorem mv_Mod_supper : Cond.selects y_Mod_supper.1.cls y_Mod_supper.1 y_Mod_supper.1 ∈ gtb := (gk_7 (List.mem_of_getElem? (i := 236) rfl) rfl)
set_option maxRecDepth 100000 in
theorem mo_Law0_86 : mOk R_law 86 0 y_Mod_supper := ⟨Or.inl (gk_7 (List.mem_of_getElem? (i := 234) rfl) rfl), mk_Mod_supper⟩
set_option maxRecDepth 100000 in
theorem mk_Main_feud : Cond.code y_Main_feud.1 y_Main_feud.2.1 y_Main_feud.2.2.1 y_Main_feud.2.2.2.1 ∈ gtb ∧ Cond.initialized y_Main_feud.1.cls ∈ gtb ∧ y_Main_feud.1.cls ≠ "java/lang/invoke/MethodHandle" ∧ y_Main_feud.1.cls ≠ "java/lang/invoke/VarHandle" ∧ (parseMethodDescriptor y_Main_feud.1.desc).map (fun d => d.parameters.length) = some 3 := ⟨(gk_5 (List.mem_of_getElem? (i := 27) rfl) rfl), cz_Main, cx_Main.1, cx_Main.2, by decide +kernel⟩
set_option maxRecDepth 100000 in
theorem mi_Main_feud : Cond.instanceMethod y_Main_feud.1 ∈ gtb := (gk_5 (List.mem_of_getElem? (i := 25) rfl) rfl)
set_option maxRecDepth 100000 in
theorem mv_Main_feud : Cond.selects y_Main_feud.1.cls y_Main_feud.1 y_Main_feud.1 ∈ gtb := (gk_5 (List.mem_of_getElem? (i := 26) rfl) rfl)
set_option maxRecDepth 100000 in
theorem mo_Law0_87 : mOk R_law 87 3 y_Main_feud := ⟨Or.inl (gk_5 (List.mem_of_getElem? (i := 24) rfl) rfl), mk_Main_feud⟩
set_option maxRecDepth 100000 in
theorem mk_Mod_feud : Cond.code y_Mod_feud.1 y_Mod_feud.2.1 y_Mod_feud.2.2.1 y_Mod_feud.2.2.2.1 ∈ gtb ∧ Cond.initialized y_Mod_feud.1.cls ∈ gtb ∧ y_Mod_feud.1.cls ≠ "java/lang/invoke/MethodHandle" ∧ y_Mod_feud.1.cls ≠ "java/lang/invoke/VarHandle" ∧ (parseMethodDescriptor y_Mod_feud.1.desc).map (fun d => d.parameters.length) = some 3 := ⟨(gk_8 (List.mem_of_getElem? (i := 1) rfl) rfl), cz_Mod, cx_Mod.1, cx_Mod.2, by decide +kernel⟩
set_option maxRecDepth 100000 in
theorem mi_Mod_feud : Cond.instanceMethod y_Mod_feud.1 ∈ gtb := (gk_7 (List.mem_of_getElem? (i := 239) rfl) rfl)
set_option maxRecDepth 100000 in
theorem mv_Mod_feud : Cond.selects y_Mod_feud.1.cls y_Mod_feud.1 y_Mod_feud.1 ∈ gtb := (gk_8 (List.mem_of_getElem? (i := 0) rfl) rfl)
set_option maxRecDepth 100000 in
theorem mo_Law0_91 : mOk R_law 91 3 y_Mod_feud := ⟨Or.inl (gk_7 (List.mem_of_getElem? (i := 238) rfl) rfl), mk_Mod_feud⟩
set_option maxRecDepth 100000 in
theorem mk_Main_menu : Cond.code y_Main_menu.1 y_Main_menu.2.1 y_Main_menu.2.2.1 y_Main_menu.2.2.2.1 ∈ gtb ∧ Cond.initialized y_Main_menu.1.cls ∈ gtb ∧ y_Main_menu.1.cls ≠ "java/lang/invoke/MethodHandle" ∧ y_Main_menu.1.cls ≠ "java/lang/invoke/VarHandle" ∧ (parseMethodDescriptor y_Main_menu.1.desc).map (fun d => d.parameters.length) = some 4 := ⟨(gk_5 (List.mem_of_getElem? (i := 31) rfl) rfl), cz_Main, cx_Main.1, cx_Main.2, by decide +kernel⟩
set_option maxRecDepth 100000 in
theorem mi_Main_menu : Cond.instanceMethod y_Main_menu.1 ∈ gtb := (gk_5 (List.mem_of_getElem? (i := 29) rfl) rfl)
set_option maxRecDepth 100000 in
theorem mv_Main_menu : Cond.selects y_Main_menu.1.cls y_Main_menu.1 y_Main_menu.1 ∈ gtb := (gk_5 (List.mem_of_getElem? (i := 30) rfl) rfl)
set_option maxRecDepth 100000 in
theorem mo_Law0_92 : mOk R_law 92 4 y_Main_menu := ⟨Or.inl (gk_5 (List.mem_of_getElem? (i := 28) rfl) rfl), mk_Main_menu⟩
set_option maxRecDepth 100000 in
theorem mk_Mod_menu : Cond.code y_Mod_menu.1 y_Mod_menu.2.1 y_Mod_menu.2.2.1 y_Mod_menu.2.2.2.1 ∈ gtb ∧ Cond.initialized y_Mod_menu.1.cls ∈ gtb ∧ y_Mod_menu.1.cls ≠ "java/lang/invoke/MethodHandle" ∧ y_Mod_menu.1.cls ≠ "java/lang/invoke/VarHandle" ∧ (parseMethodDescriptor y_Mod_menu.1.desc).map (fun d => d.parameters.length) = some 4 := ⟨(gk_8 (List.mem_of_getElem? (i := 5) rfl) rfl), cz_Mod, cx_Mod.1, cx_Mod.2, by decide +kernel⟩
set_option maxRecDepth 100000 in
theorem mi_Mod_menu : Cond.instanceMethod y_Mod_menu.1 ∈ gtb := (gk_8 (List.mem_of_getElem? (i := 3) rfl) rfl)
set_option maxRecDepth 100000 in
theorem mv_Mod_menu : Cond.selects y_Mod_menu.1.cls y_Mod_menu.1 y_Mod_menu.1 ∈ gtb := (gk_8 (List.mem_of_getElem? (i := 4) rfl) rfl)
set_option maxRecDepth 100000 in
theorem mo_Law0_95 : mOk R_law 95 4 y_Mod_menu := ⟨Or.inl (gk_8 (List.mem_of_getElem? (i := 2) rfl) rfl), mk_Mod_menu⟩
set_option maxRecDepth 100000 in
theorem mk_Main_often : Cond.code y_Main_often.1 y_Main_often.2.1 y_Main_often.2.2.1 y_Main_often.2.2.2.1 ∈ gtb ∧ Cond.initialized y_Main_often.1.cls ∈ gtb ∧ y_Main_often.1.cls ≠ "java/lang/invoke/MethodHandle" ∧ y_Main_often.1.cls ≠ "java/lang/invoke/VarHandle" ∧ (parseMethodDescriptor y_Main_often.1.desc).map (fun d => d.parameters.length) = some 1 := ⟨(gk_5 (List.mem_of_getElem? (i := 68) rfl) rfl), cz_Main, cx_Main.1, cx_Main.2, by decide +kernel⟩
set_option maxRecDepth 100000 in
theorem mi_Main_often : Cond.instanceMethod y_Main_often.1 ∈ gtb := (gk_5 (List.mem_of_getElem? (i := 66) rfl) rfl)
set_option maxRecDepth 100000 in
theorem mv_Main_often : Cond.selects y_Main_often.1.cls y_Main_often.1 y_Main_often.1 ∈ gtb := (gk_5 (List.mem_of_getElem? (i := 67) rfl) rfl)
set_option maxRecDepth 100000 in
theorem mo_Law0_96 : mOk R_law 96 1 y_Main_often := ⟨Or.inl (gk_5 (List.mem_of_getElem? (i := 65) rfl) rfl), mk_Main_often⟩
set_option maxRecDepth 100000 in
theorem mk_Mod_often : Cond.code y_Mod_often.1 y_Mod_often.2.1 y_Mod_often.2.2.1 y_Mod_often.2.2.2.1 ∈ gtb ∧ Cond.initialized y_Mod_often.1.cls ∈ gtb ∧ y_Mod_often.1.cls ≠ "java/lang/invoke/MethodHandle" ∧ y_Mod_often.1.cls ≠ "java/lang/invoke/VarHandle" ∧ (parseMethodDescriptor y_Mod_often.1.desc).map (fun d => d.parameters.length) = some 1 := ⟨(gk_8 (List.mem_of_getElem? (i := 16) rfl) rfl), cz_Mod, cx_Mod.1, cx_Mod.2, by decide +kernel⟩
set_option maxRecDepth 100000 in
theorem mi_Mod_often : Cond.instanceMethod y_Mod_often.1 ∈ gtb := (gk_8 (List.mem_of_getElem? (i := 14) rfl) rfl)
set_option maxRecDepth 100000 in
theorem mv_Mod_often : Cond.selects y_Mod_often.1.cls y_Mod_often.1 y_Mod_often.1 ∈ gtb := (gk_8 (List.mem_of_getElem? (i := 15) rfl) rfl)
set_option maxRecDepth 100000 in
theorem mo_Law0_99 : mOk R_law 99 1 y_Mod_often := ⟨Or.inl (gk_8 (List.mem_of_getElem? (i := 13) rfl) rfl), mk_Mod_often⟩
set_option maxRecDepth 100000 in
theorem mk_Main_hunger : Cond.code y_Main_hunger.1 y_Main_hunger.2.1 y_Main_hunger.2.2.1 y_Main_hunger.2.2.2.1 ∈ gtb ∧ Cond.initialized y_Main_hunger.1.cls ∈ gtb ∧ y_Main_hunger.1.cls ≠ "java/lang/invoke/MethodHandle" ∧ y_Main_hunger.1.cls ≠ "java/lang/invoke/VarHandle" ∧ (parseMethodDescriptor y_Main_hunger.1.desc).map (fun d => d.parameters.length) = some 2 := ⟨(gk_5 (List.mem_of_getElem? (i := 73) rfl) rfl), cz_Main, cx_Main.1, cx_Main.2, by decide +kernel⟩
set_option maxRecDepth 100000 in
theorem mi_Main_hunger : Cond.instanceMethod y_Main_hunger.1 ∈ gtb := (gk_5 (List.mem_of_getElem? (i := 71) rfl) rfl)
set_option maxRecDepth 100000 in
theorem mv_Main_hunger : Cond.selects y_Main_hunger.1.cls y_Main_hunger.1 y_Main_hunger.1 ∈ gtb := (gk_5 (List.mem_of_getElem? (i := 72) rfl) rfl)
set_option maxRecDepth 100000 in
theorem mo_Law0_100 : mOk R_law 100 2 y_Main_hunger := ⟨Or.inl (gk_5 (List.mem_of_getElem? (i := 70) rfl) rfl), mk_Main_hunger⟩
set_option maxRecDepth 100000 in
theorem mk_Mod_hunger : Cond.code y_Mod_hunger.1 y_Mod_hunger.2.1 y_Mod_hunger.2.2.1 y_Mod_hunger.2.2.2.1 ∈ gtb ∧ Cond.initialized y_Mod_hunger.1.cls ∈ gtb ∧ y_Mod_hunger.1.cls ≠ "java/lang/invoke/MethodHandle" ∧ y_Mod_hunger.1.cls ≠ "java/lang/invoke/VarHandle" ∧ (parseMethodDescriptor y_Mod_hunger.1.desc).map (fun d => d.parameters.length) = some 2 := ⟨(gk_8 (List.mem_of_getElem? (i := 20) rfl) rfl), cz_Mod, cx_Mod.1, cx_Mod.2, by decide +kernel⟩
set_option maxRecDepth 100000 in
theorem mi_Mod_hunger : Cond.instanceMethod y_Mod_hunger.1 ∈ gtb := (gk_8 (List.mem_of_getElem? (i := 18) rfl) rfl)
set_option maxRecDepth 100000 in
theorem mv_Mod_hunger : Cond.selects y_Mod_hunger.1.cls y_Mod_hunger.1 y_Mod_hunger.1 ∈ gtb := (gk_8 (List.mem_of_getElem? (i := 19) rfl) rfl)
set_option maxRecDepth 100000 in
theorem mo_Law0_103 : mOk R_law 103 2 y_Mod_hunger := ⟨Or.inl (gk_8 (List.mem_of_getElem? (i := 17) rfl) rfl), mk_Mod_hunger⟩
set_option maxRecDepth 100000 in
theorem mk_Main_stockIn : Cond.code y_Main_stockIn.1 y_Main_stockIn.2.1 y_Main_stockIn.2.2.1 y_Main_stockIn.2.2.2.1 ∈ gtb ∧ Cond.initialized y_Main_stockIn.1.cls ∈ gtb ∧ y_Main_stockIn.1.cls ≠ "java/lang/invoke/MethodHandle" ∧ y_Main_stockIn.1.cls ≠ "java/lang/invoke/VarHandle" ∧ (parseMethodDescriptor y_Main_stockIn.1.desc).map (fun d => d.parameters.length) = some 2 := ⟨(gk_5 (List.mem_of_getElem? (i := 77) rfl) rfl), cz_Main, cx_Main.1, cx_Main.2, by decide +kernel⟩
set_option maxRecDepth 100000 in
theorem mi_Main_stockIn : Cond.instanceMethod y_Main_stockIn.1 ∈ gtb := (gk_5 (List.mem_of_getElem? (i := 75) rfl) rfl)
set_option maxRecDepth 100000 in
theorem mv_Main_stockIn : Cond.selects y_Main_stockIn.1.cls y_Main_stockIn.1 y_Main_stockIn.1 ∈ gtb := (gk_5 (List.mem_of_getElem? (i := 76) rfl) rfl)
set_option maxRecDepth 100000 in
theorem mo_Law0_104 : mOk R_law 104 2 y_Main_stockIn := ⟨Or.inl (gk_5 (List.mem_of_getElem? (i := 74) rfl) rfl), mk_Main_stockIn⟩
set_option maxRecDepth 100000 in
theorem mk_Mod_stockIn : Cond.code y_Mod_stockIn.1 y_Mod_stockIn.2.1 y_Mod_stockIn.2.2.1 y_Mod_stockIn.2.2.2.1 ∈ gtb ∧ Cond.initialized y_Mod_stockIn.1.cls ∈ gtb ∧ y_Mod_stockIn.1.cls ≠ "java/lang/invoke/MethodHandle" ∧ y_Mod_stockIn.1.cls ≠ "java/lang/invoke/VarHandle" ∧ (parseMethodDescriptor y_Mod_stockIn.1.desc).map (fun d => d.parameters.length) = some 2 := ⟨(gk_8 (List.mem_of_getElem? (i := 24) rfl) rfl), cz_Mod, cx_Mod.1, cx_Mod.2, by decide +kernel⟩
set_option maxRecDepth 100000 in
theorem mi_Mod_stockIn : Cond.instanceMethod y_Mod_stockIn.1 ∈ gtb := (gk_8 (List.mem_of_getElem? (i := 22) rfl) rfl)
set_option maxRecDepth 100000 in
theorem mv_Mod_stockIn : Cond.selects y_Mod_stockIn.1.cls y_Mod_stockIn.1 y_Mod_stockIn.1 ∈ gtb := (gk_8 (List.mem_of_getElem? (i := 23) rfl) rfl)
set_option maxRecDepth 100000 in
theorem mo_Law0_107 : mOk R_law 107 2 y_Mod_stockIn := ⟨Or.inl (gk_8 (List.mem_of_getElem? (i := 21) rfl) rfl), mk_Mod_stockIn⟩
set_option maxRecDepth 100000 in
theorem mk_Main_boundIn : Cond.code y_Main_boundIn.1 y_Main_boundIn.2.1 y_Main_boundIn.2.2.1 y_Main_boundIn.2.2.2.1 ∈ gtb ∧ Cond.initialized y_Main_boundIn.1.cls ∈ gtb ∧ y_Main_boundIn.1.cls ≠ "java/lang/invoke/MethodHandle" ∧ y_Main_boundIn.1.cls ≠ "java/lang/invoke/VarHandle" ∧ (parseMethodDescriptor y_Main_boundIn.1.desc).map (fun d => d.parameters.length) = some 3 := ⟨(gk_5 (List.mem_of_getElem? (i := 81) rfl) rfl), cz_Main, cx_Main.1, cx_Main.2, by decide +kernel⟩
set_option maxRecDepth 100000 in
theorem mi_Main_boundIn : Cond.instanceMethod y_Main_boundIn.1 ∈ gtb := (gk_5 (List.mem_of_getElem? (i := 79) rfl) rfl)
set_option maxRecDepth 100000 in
theorem mv_Main_boundIn : Cond.selects y_Main_boundIn.1.cls y_Main_boundIn.1 y_Main_boundIn.1 ∈ gtb := (gk_5 (List.mem_of_getElem? (i := 80) rfl) rfl)
set_option maxRecDepth 100000 in
theorem mo_Law0_108 : mOk R_law 108 3 y_Main_boundIn := ⟨Or.inl (gk_5 (List.mem_of_getElem? (i := 78) rfl) rfl), mk_Main_boundIn⟩
set_option maxRecDepth 100000 in
theorem mk_Mod_boundIn : Cond.code y_Mod_boundIn.1 y_Mod_boundIn.2.1 y_Mod_boundIn.2.2.1 y_Mod_boundIn.2.2.2.1 ∈ gtb ∧ Cond.initialized y_Mod_boundIn.1.cls ∈ gtb ∧ y_Mod_boundIn.1.cls ≠ "java/lang/invoke/MethodHandle" ∧ y_Mod_boundIn.1.cls ≠ "java/lang/invoke/VarHandle" ∧ (parseMethodDescriptor y_Mod_boundIn.1.desc).map (fun d => d.parameters.length) = some 3 := ⟨(gk_8 (List.mem_of_getElem? (i := 31) rfl) rfl), cz_Mod, cx_Mod.1, cx_Mod.2, by decide +kernel⟩
set_option maxRecDepth 100000 in
theorem mi_Mod_boundIn : Cond.instanceMethod y_Mod_boundIn.1 ∈ gtb := (gk_8 (List.mem_of_getElem? (i := 29) rfl) rfl)
set_option maxRecDepth 100000 in
theorem mv_Mod_boundIn : Cond.selects y_Mod_boundIn.1.cls y_Mod_boundIn.1 y_Mod_boundIn.1 ∈ gtb := (gk_8 (List.mem_of_getElem? (i := 30) rfl) rfl)
set_option maxRecDepth 100000 in
theorem mo_Law0_111 : mOk R_law 111 3 y_Mod_boundIn := ⟨Or.inl (gk_8 (List.mem_of_getElem? (i := 28) rfl) rfl), mk_Mod_boundIn⟩
set_option maxRecDepth 100000 in
theorem mk_Main_year : Cond.code y_Main_year.1 y_Main_year.2.1 y_Main_year.2.2.1 y_Main_year.2.2.2.1 ∈ gtb ∧ Cond.initialized y_Main_year.1.cls ∈ gtb ∧ y_Main_year.1.cls ≠ "java/lang/invoke/MethodHandle" ∧ y_Main_year.1.cls ≠ "java/lang/invoke/VarHandle" ∧ (parseMethodDescriptor y_Main_year.1.desc).map (fun d => d.parameters.length) = some 4 := ⟨(gk_5 (List.mem_of_getElem? (i := 85) rfl) rfl), cz_Main, cx_Main.1, cx_Main.2, by decide +kernel⟩
set_option maxRecDepth 100000 in
theorem mi_Main_year : Cond.instanceMethod y_Main_year.1 ∈ gtb := (gk_5 (List.mem_of_getElem? (i := 83) rfl) rfl)
set_option maxRecDepth 100000 in
theorem mv_Main_year : Cond.selects y_Main_year.1.cls y_Main_year.1 y_Main_year.1 ∈ gtb := (gk_5 (List.mem_of_getElem? (i := 84) rfl) rfl)
set_option maxRecDepth 100000 in
theorem mo_Law0_112 : mOk R_law 112 4 y_Main_year := ⟨Or.inl (gk_5 (List.mem_of_getElem? (i := 82) rfl) rfl), mk_Main_year⟩
set_option maxRecDepth 100000 in
theorem mk_Mod_year : Cond.code y_Mod_year.1 y_Mod_year.2.1 y_Mod_year.2.2.1 y_Mod_year.2.2.2.1 ∈ gtb ∧ Cond.initialized y_Mod_year.1.cls ∈ gtb ∧ y_Mod_year.1.cls ≠ "java/lang/invoke/MethodHandle" ∧ y_Mod_year.1.cls ≠ "java/lang/invoke/VarHandle" ∧ (parseMethodDescriptor y_Mod_year.1.desc).map (fun d => d.parameters.length) = some 4 := ⟨(gk_8 (List.mem_of_getElem? (i := 35) rfl) rfl), cz_Mod, cx_Mod.1, cx_Mod.2, by decide +kernel⟩
set_option maxRecDepth 100000 in
theorem mi_Mod_year : Cond.instanceMethod y_Mod_year.1 ∈ gtb := (gk_8 (List.mem_of_getElem? (i := 33) rfl) rfl)
set_option maxRecDepth 100000 in
theorem mv_Mod_year : Cond.selects y_Mod_year.1.cls y_Mod_year.1 y_Mod_year.1 ∈ gtb := (gk_8 (List.mem_of_getElem? (i := 34) rfl) rfl)
set_option maxRecDepth 100000 in
theorem mo_Law0_115 : mOk R_law 115 4 y_Mod_year := ⟨Or.inl (gk_8 (List.mem_of_getElem? (i := 32) rfl) rfl), mk_Mod_year⟩
set_option maxRecDepth 100000 in
theorem mk_Main_tell : Cond.code y_Main_tell.1 y_Main_tell.2.1 y_Main_tell.2.2.1 y_Main_tell.2.2.2.1 ∈ gtb ∧ Cond.initialized y_Main_tell.1.cls ∈ gtb ∧ y_Main_tell.1.cls ≠ "java/lang/invoke/MethodHandle" ∧ y_Main_tell.1.cls ≠ "java/lang/invoke/VarHandle" ∧ (parseMethodDescriptor y_Main_tell.1.desc).map (fun d => d.parameters.length) = some 3 := ⟨(gk_5 (List.mem_of_getElem? (i := 90) rfl) rfl), cz_Main, cx_Main.1, cx_Main.2, by decide +kernel⟩
set_option maxRecDepth 100000 in
theorem mi_Main_tell : Cond.instanceMethod y_Main_tell.1 ∈ gtb := (gk_5 (List.mem_of_getElem? (i := 88) rfl) rfl)
set_option maxRecDepth 100000 in
theorem mv_Main_tell : Cond.selects y_Main_tell.1.cls y_Main_tell.1 y_Main_tell.1 ∈ gtb := (gk_5 (List.mem_of_getElem? (i := 89) rfl) rfl)
set_option maxRecDepth 100000 in
theorem mo_Law0_116 : mOk R_law 116 3 y_Main_tell := ⟨Or.inl (gk_5 (List.mem_of_getElem? (i := 87) rfl) rfl), mk_Main_tell⟩
set_option maxRecDepth 100000 in
theorem mk_Mod_tell : Cond.code y_Mod_tell.1 y_Mod_tell.2.1 y_Mod_tell.2.2.1 y_Mod_tell.2.2.2.1 ∈ gtb ∧ Cond.initialized y_Mod_tell.1.cls ∈ gtb ∧ y_Mod_tell.1.cls ≠ "java/lang/invoke/MethodHandle" ∧ y_Mod_tell.1.cls ≠ "java/lang/invoke/VarHandle" ∧ (parseMethodDescriptor y_Mod_tell.1.desc).map (fun d => d.parameters.length) = some 3 := ⟨(gk_8 (List.mem_of_getElem? (i := 39) rfl) rfl), cz_Mod, cx_Mod.1, cx_Mod.2, by decide +kernel⟩
set_option maxRecDepth 100000 in
theorem mi_Mod_tell : Cond.instanceMethod y_Mod_tell.1 ∈ gtb := (gk_8 (List.mem_of_getElem? (i := 37) rfl) rfl)
set_option maxRecDepth 100000 in
theorem mv_Mod_tell : Cond.selects y_Mod_tell.1.cls y_Mod_tell.1 y_Mod_tell.1 ∈ gtb := (gk_8 (List.mem_of_getElem? (i := 38) rfl) rfl)
set_option maxRecDepth 100000 in
theorem mo_Law0_119 : mOk R_law 119 3 y_Mod_tell := ⟨Or.inl (gk_8 (List.mem_of_getElem? (i := 36) rfl) rfl), mk_Mod_tell⟩
set_option maxRecDepth 100000 in
theorem mk_Main_forget : Cond.code y_Main_forget.1 y_Main_forget.2.1 y_Main_forget.2.2.1 y_Main_forget.2.2.2.1 ∈ gtb ∧ Cond.initialized y_Main_forget.1.cls ∈ gtb ∧ y_Main_forget.1.cls ≠ "java/lang/invoke/MethodHandle" ∧ y_Main_forget.1.cls ≠ "java/lang/invoke/VarHandle" ∧ (parseMethodDescriptor y_Main_forget.1.desc).map (fun d => d.parameters.length) = some 0 := ⟨(gk_5 (List.mem_of_getElem? (i := 99) rfl) rfl), cz_Main, cx_Main.1, cx_Main.2, by decide +kernel⟩
set_option maxRecDepth 100000 in
theorem mi_Main_forget : Cond.instanceMethod y_Main_forget.1 ∈ gtb := (gk_5 (List.mem_of_getElem? (i := 97) rfl) rfl)
set_option maxRecDepth 100000 in
theorem mv_Main_forget : Cond.selects y_Main_forget.1.cls y_Main_forget.1 y_Main_forget.1 ∈ gtb := (gk_5 (List.mem_of_getElem? (i := 98) rfl) rfl)
set_option maxRecDepth 100000 in
theorem mo_Law0_120 : mOk R_law 120 0 y_Main_forget := ⟨Or.inl (gk_5 (List.mem_of_getElem? (i := 96) rfl) rfl), mk_Main_forget⟩
set_option maxRecDepth 100000 in
theorem mk_Mod_forget : Cond.code y_Mod_forget.1 y_Mod_forget.2.1 y_Mod_forget.2.2.1 y_Mod_forget.2.2.2.1 ∈ gtb ∧ Cond.initialized y_Mod_forget.1.cls ∈ gtb ∧ y_Mod_forget.1.cls ≠ "java/lang/invoke/MethodHandle" ∧ y_Mod_forget.1.cls ≠ "java/lang/invoke/VarHandle" ∧ (parseMethodDescriptor y_Mod_forget.1.desc).map (fun d => d.parameters.length) = some 0 := ⟨(gk_8 (List.mem_of_getElem? (i := 43) rfl) rfl), cz_Mod, cx_Mod.1, cx_Mod.2, by decide +kernel⟩
set_option maxRecDepth 100000 in
theorem mi_Mod_forget : Cond.instanceMethod y_Mod_forget.1 ∈ gtb := (gk_8 (List.mem_of_getElem? (i := 41) rfl) rfl)
set_option maxRecDepth 100000 in
theorem mv_Mod_forget : Cond.selects y_Mod_forget.1.cls y_Mod_forget.1 y_Mod_forget.1 ∈ gtb := (gk_8 (List.mem_of_getElem? (i := 42) rfl) rfl)
set_option maxRecDepth 100000 in
theorem mo_Law0_123 : mOk R_law 123 0 y_Mod_forget := ⟨Or.inl (gk_8 (List.mem_of_getElem? (i := 40) rfl) rfl), mk_Mod_forget⟩
set_option maxRecDepth 100000 in
theorem mk_Main_blame : Cond.code y_Main_blame.1 y_Main_blame.2.1 y_Main_blame.2.2.1 y_Main_blame.2.2.2.1 ∈ gtb ∧ Cond.initialized y_Main_blame.1.cls ∈ gtb ∧ y_Main_blame.1.cls ≠ "java/lang/invoke/MethodHandle" ∧ y_Main_blame.1.cls ≠ "java/lang/invoke/VarHandle" ∧ (parseMethodDescriptor y_Main_blame.1.desc).map (fun d => d.parameters.length) = some 1 := ⟨(gk_5 (List.mem_of_getElem? (i := 103) rfl) rfl), cz_Main, cx_Main.1, cx_Main.2, by decide +kernel⟩
set_option maxRecDepth 100000 in
theorem mi_Main_blame : Cond.instanceMethod y_Main_blame.1 ∈ gtb := (gk_5 (List.mem_of_getElem? (i := 101) rfl) rfl)
set_option maxRecDepth 100000 in
theorem mv_Main_blame : Cond.selects y_Main_blame.1.cls y_Main_blame.1 y_Main_blame.1 ∈ gtb := (gk_5 (List.mem_of_getElem? (i := 102) rfl) rfl)
set_option maxRecDepth 100000 in
theorem mo_Law0_124 : mOk R_law 124 1 y_Main_blame := ⟨Or.inl (gk_5 (List.mem_of_getElem? (i := 100) rfl) rfl), mk_Main_blame⟩
set_option maxRecDepth 100000 in
theorem mk_Mod_blame : Cond.code y_Mod_blame.1 y_Mod_blame.2.1 y_Mod_blame.2.2.1 y_Mod_blame.2.2.2.1 ∈ gtb ∧ Cond.initialized y_Mod_blame.1.cls ∈ gtb ∧ y_Mod_blame.1.cls ≠ "java/lang/invoke/MethodHandle" ∧ y_Mod_blame.1.cls ≠ "java/lang/invoke/VarHandle" ∧ (parseMethodDescriptor y_Mod_blame.1.desc).map (fun d => d.parameters.length) = some 1 := ⟨(gk_8 (List.mem_of_getElem? (i := 47) rfl) rfl), cz_Mod, cx_Mod.1, cx_Mod.2, by decide +kernel⟩
set_option maxRecDepth 100000 in
theorem mi_Mod_blame : Cond.instanceMethod y_Mod_blame.1 ∈ gtb := (gk_8 (List.mem_of_getElem? (i := 45) rfl) rfl)
set_option maxRecDepth 100000 in
theorem mv_Mod_blame : Cond.selects y_Mod_blame.1.cls y_Mod_blame.1 y_Mod_blame.1 ∈ gtb := (gk_8 (List.mem_of_getElem? (i := 46) rfl) rfl)
set_option maxRecDepth 100000 in
theorem mo_Law0_127 : mOk R_law 127 1 y_Mod_blame := ⟨Or.inl (gk_8 (List.mem_of_getElem? (i := 44) rfl) rfl), mk_Mod_blame⟩
set_option maxRecDepth 100000 in
theorem mk_Main_sure : Cond.code y_Main_sure.1 y_Main_sure.2.1 y_Main_sure.2.2.1 y_Main_sure.2.2.2.1 ∈ gtb ∧ Cond.initialized y_Main_sure.1.cls ∈ gtb ∧ y_Main_sure.1.cls ≠ "java/lang/invoke/MethodHandle" ∧ y_Main_sure.1.cls ≠ "java/lang/invoke/VarHandle" ∧ (parseMethodDescriptor y_Main_sure.1.desc).map (fun d => d.parameters.length) = some 1 := ⟨(gk_5 (List.mem_of_getElem? (i := 129) rfl) rfl), cz_Main, cx_Main.1, cx_Main.2, by decide +kernel⟩
set_option maxRecDepth 100000 in
theorem mi_Main_sure : Cond.instanceMethod y_Main_sure.1 ∈ gtb := (gk_5 (List.mem_of_getElem? (i := 127) rfl) rfl)
set_option maxRecDepth 100000 in
theorem mv_Main_sure : Cond.selects y_Main_sure.1.cls y_Main_sure.1 y_Main_sure.1 ∈ gtb := (gk_5 (List.mem_of_getElem? (i := 128) rfl) rfl)
set_option maxRecDepth 100000 in
theorem mo_Law0_128 : mOk R_law 128 1 y_Main_sure := ⟨Or.inl (gk_5 (List.mem_of_getElem? (i := 126) rfl) rfl), mk_Main_sure⟩
set_option maxRecDepth 100000 in
theorem mk_Mod_sure : Cond.code y_Mod_sure.1 y_Mod_sure.2.1 y_Mod_sure.2.2.1 y_Mod_sure.2.2.2.1 ∈ gtb ∧ Cond.initialized y_Mod_sure.1.cls ∈ gtb ∧ y_Mod_sure.1.cls ≠ "java/lang/invoke/MethodHandle" ∧ y_Mod_sure.1.cls ≠ "java/lang/invoke/VarHandle" ∧ (parseMethodDescriptor y_Mod_sure.1.desc).map (fun d => d.parameters.length) = some 1 := ⟨(gk_8 (List.mem_of_getElem? (i := 63) rfl) rfl), cz_Mod, cx_Mod.1, cx_Mod.2, by decide +kernel⟩
set_option maxRecDepth 100000 in
theorem mi_Mod_sure : Cond.instanceMethod y_Mod_sure.1 ∈ gtb := (gk_8 (List.mem_of_getElem? (i := 61) rfl) rfl)
set_option maxRecDepth 100000 in
theorem mv_Mod_sure : Cond.selects y_Mod_sure.1.cls y_Mod_sure.1 y_Mod_sure.1 ∈ gtb := (gk_8 (List.mem_of_getElem? (i := 62) rfl) rfl)
set_option maxRecDepth 100000 in
theorem mo_Law0_131 : mOk R_law 131 1 y_Mod_sure := ⟨Or.inl (gk_8 (List.mem_of_getElem? (i := 60) rfl) rfl), mk_Mod_sure⟩
set_option maxRecDepth 100000 in
theorem mk_Main_taste : Cond.code y_Main_taste.1 y_Main_taste.2.1 y_Main_taste.2.2.1 y_Main_taste.2.2.2.1 ∈ gtb ∧ Cond.initialized y_Main_taste.1.cls ∈ gtb ∧ y_Main_taste.1.cls ≠ "java/lang/invoke/MethodHandle" ∧ y_Main_taste.1.cls ≠ "java/lang/invoke/VarHandle" ∧ (parseMethodDescriptor y_Main_taste.1.desc).map (fun d => d.parameters.length) = some 1 := ⟨(gk_5 (List.mem_of_getElem? (i := 137) rfl) rfl), cz_Main, cx_Main.1, cx_Main.2, by decide +kernel⟩
set_option maxRecDepth 100000 in
theorem mi_Main_taste : Cond.instanceMethod y_Main_taste.1 ∈ gtb := (gk_5 (List.mem_of_getElem? (i := 135) rfl) rfl)
set_option maxRecDepth 100000 in
theorem mv_Main_taste : Cond.selects y_Main_taste.1.cls y_Main_taste.1 y_Main_taste.1 ∈ gtb := (gk_5 (List.mem_of_getElem? (i := 136) rfl) rfl)
set_option maxRecDepth 100000 in
theorem mo_Law0_132 : mOk R_law 132 1 y_Main_taste := ⟨Or.inl (gk_5 (List.mem_of_getElem? (i := 134) rfl) rfl), mk_Main_taste⟩
set_option maxRecDepth 100000 in
theorem mk_Mod_taste : Cond.code y_Mod_taste.1 y_Mod_taste.2.1 y_Mod_taste.2.2.1 y_Mod_taste.2.2.2.1 ∈ gtb ∧ Cond.initialized y_Mod_taste.1.cls ∈ gtb ∧ y_Mod_taste.1.cls ≠ "java/lang/invoke/MethodHandle" ∧ y_Mod_taste.1.cls ≠ "java/lang/invoke/VarHandle" ∧ (parseMethodDescriptor y_Mod_taste.1.desc).map (fun d => d.parameters.length) = some 1 := ⟨(gk_8 (List.mem_of_getElem? (i := 67) rfl) rfl), cz_Mod, cx_Mod.1, cx_Mod.2, by decide +kernel⟩
set_option maxRecDepth 100000 in
theorem mi_Mod_taste : Cond.instanceMethod y_Mod_taste.1 ∈ gtb := (gk_8 (List.mem_of_getElem? (i := 65) rfl) rfl)
set_option maxRecDepth 100000 in
theorem mv_Mod_taste : Cond.selects y_Mod_taste.1.cls y_Mod_taste.1 y_Mod_taste.1 ∈ gtb := (gk_8 (List.mem_of_getElem? (i := 66) rfl) rfl)
set_option maxRecDepth 100000 in
theorem mo_Law0_135 : mOk R_law 135 1 y_Mod_taste := ⟨Or.inl (gk_8 (List.mem_of_getElem? (i := 64) rfl) rfl), mk_Mod_taste⟩
set_option maxRecDepth 100000 in
theorem mk_Main_hold : Cond.code y_Main_hold.1 y_Main_hold.2.1 y_Main_hold.2.2.1 y_Main_hold.2.2.2.1 ∈ gtb ∧ Cond.initialized y_Main_hold.1.cls ∈ gtb ∧ y_Main_hold.1.cls ≠ "java/lang/invoke/MethodHandle" ∧ y_Main_hold.1.cls ≠ "java/lang/invoke/VarHandle" ∧ (parseMethodDescriptor y_Main_hold.1.desc).map (fun d => d.parameters.length) = some 1 := ⟨(gk_5 (List.mem_of_getElem? (i := 151) rfl) rfl), cz_Main, cx_Main.1, cx_Main.2, by decide +kernel⟩
set_option maxRecDepth 100000 in
theorem mi_Main_hold : Cond.instanceMethod y_Main_hold.1 ∈ gtb := (gk_5 (List.mem_of_getElem? (i := 149) rfl) rfl)
set_option maxRecDepth 100000 in
theorem mv_Main_hold : Cond.selects y_Main_hold.1.cls y_Main_hold.1 y_Main_hold.1 ∈ gtb := (gk_5 (List.mem_of_getElem? (i := 150) rfl) rfl)
set_option maxRecDepth 100000 in
theorem mo_Law0_136 : mOk R_law 136 1 y_Main_hold := ⟨Or.inl (gk_5 (List.mem_of_getElem? (i := 148) rfl) rfl), mk_Main_hold⟩
set_option maxRecDepth 100000 in
theorem mk_Mod_hold : Cond.code y_Mod_hold.1 y_Mod_hold.2.1 y_Mod_hold.2.2.1 y_Mod_hold.2.2.2.1 ∈ gtb ∧ Cond.initialized y_Mod_hold.1.cls ∈ gtb ∧ y_Mod_hold.1.cls ≠ "java/lang/invoke/MethodHandle" ∧ y_Mod_hold.1.cls ≠ "java/lang/invoke/VarHandle" ∧ (parseMethodDescriptor y_Mod_hold.1.desc).map (fun d => d.parameters.length) = some 1 := ⟨(gk_8 (List.mem_of_getElem? (i := 71) rfl) rfl), cz_Mod, cx_Mod.1, cx_Mod.2, by decide +kernel⟩
set_option maxRecDepth 100000 in
theorem mi_Mod_hold : Cond.instanceMethod y_Mod_hold.1 ∈ gtb := (gk_8 (List.mem_of_getElem? (i := 69) rfl) rfl)
set_option maxRecDepth 100000 in
theorem mv_Mod_hold : Cond.selects y_Mod_hold.1.cls y_Mod_hold.1 y_Mod_hold.1 ∈ gtb := (gk_8 (List.mem_of_getElem? (i := 70) rfl) rfl)
set_option maxRecDepth 100000 in
theorem mo_Law0_140 : mOk R_law 140 1 y_Mod_hold := ⟨Or.inl (gk_8 (List.mem_of_getElem? (i := 68) rfl) rfl), mk_Mod_hold⟩
set_option maxRecDepth 100000 in
theorem mk_Main_restore : Cond.code y_Main_restore.1 y_Main_restore.2.1 y_Main_restore.2.2.1 y_Main_restore.2.2.2.1 ∈ gtb ∧ Cond.initialized y_Main_restore.1.cls ∈ gtb ∧ y_Main_restore.1.cls ≠ "java/lang/invoke/MethodHandle" ∧ y_Main_restore.1.cls ≠ "java/lang/invoke/VarHandle" ∧ (parseMethodDescriptor y_Main_restore.1.desc).map (fun d => d.parameters.length) = some 1 := ⟨(gk_5 (List.mem_of_getElem? (i := 160) rfl) rfl), cz_Main, cx_Main.1, cx_Main.2, by decide +kernel⟩
set_option maxRecDepth 100000 in
theorem mi_Main_restore : Cond.instanceMethod y_Main_restore.1 ∈ gtb := (gk_5 (List.mem_of_getElem? (i := 158) rfl) rfl)
set_option maxRecDepth 100000 in
theorem mv_Main_restore : Cond.selects y_Main_restore.1.cls y_Main_restore.1 y_Main_restore.1 ∈ gtb := (gk_5 (List.mem_of_getElem? (i := 159) rfl) rfl)
set_option maxRecDepth 100000 in
theorem mo_Law0_141 : mOk R_law 141 1 y_Main_restore := ⟨Or.inl (gk_5 (List.mem_of_getElem? (i := 157) rfl) rfl), mk_Main_restore⟩
set_option maxRecDepth 100000 in
theorem mk_Mod_restore : Cond.code y_Mod_restore.1 y_Mod_restore.2.1 y_Mod_restore.2.2.1 y_Mod_restore.2.2.2.1 ∈ gtb ∧ Cond.initialized y_Mod_restore.1.cls ∈ gtb ∧ y_Mod_restore.1.cls ≠ "java/lang/invoke/MethodHandle" ∧ y_Mod_restore.1.cls ≠ "java/lang/invoke/VarHandle" ∧ (parseMethodDescriptor y_Mod_restore.1.desc).map (fun d => d.parameters.length) = some 1 := ⟨(gk_8 (List.mem_of_getElem? (i := 75) rfl) rfl), cz_Mod, cx_Mod.1, cx_Mod.2, by decide +kernel⟩
set_option maxRecDepth 100000 in
theorem mi_Mod_restore : Cond.instanceMethod y_Mod_restore.1 ∈ gtb := (gk_8 (List.mem_of_getElem? (i := 73) rfl) rfl)
set_option maxRecDepth 100000 in
theorem mv_Mod_restore : Cond.selects y_Mod_restore.1.cls y_Mod_restore.1 y_Mod_restore.1 ∈ gtb := (gk_8 (List.mem_of_getElem? (i := 74) rfl) rfl)
set_option maxRecDepth 100000 in
theorem mo_Law0_144 : mOk R_law 144 1 y_Mod_restore := ⟨Or.inl (gk_8 (List.mem_of_getElem? (i := 72) rfl) rfl), mk_Mod_restore⟩
set_option maxRecDepth 100000 in
theorem mk_Main_count : Cond.code y_Main_count.1 y_Main_count.2.1 y_Main_count.2.2.1 y_Main_count.2.2.2.1 ∈ gtb ∧ Cond.initialized y_Main_count.1.cls ∈ gtb ∧ y_Main_count.1.cls ≠ "java/lang/invoke/MethodHandle" ∧ y_Main_count.1.cls ≠ "java/lang/invoke/VarHandle" ∧ (parseMethodDescriptor y_Main_count.1.desc).map (fun d => d.parameters.length) = some 1 := ⟨(gk_5 (List.mem_of_getElem? (i := 169) rfl) rfl), cz_Main, cx_Main.1, cx_Main.2, by decide +kernel⟩
set_option maxRecDepth 100000 in
theorem mi_Main_count : Cond.instanceMethod y_Main_count.1 ∈ gtb := (gk_5 (List.mem_of_getElem? (i := 167) rfl) rfl)
set_option maxRecDepth 100000 in
theorem mv_Main_count : Cond.selects y_Main_count.1.cls y_Main_count.1 y_Main_count.1 ∈ gtb := (gk_5 (List.mem_of_getElem? (i := 168) rfl) rfl)
set_option maxRecDepth 100000 in
theorem mo_Law0_145 : mOk R_law 145 1 y_Main_count := ⟨Or.inl (gk_5 (List.mem_of_getElem? (i := 166) rfl) rfl), mk_Main_count⟩
set_option maxRecDepth 100000 in
theorem mk_Mod_count : Cond.code y_Mod_count.1 y_Mod_count.2.1 y_Mod_count.2.2.1 y_Mod_count.2.2.2.1 ∈ gtb ∧ Cond.initialized y_Mod_count.1.cls ∈ gtb ∧ y_Mod_count.1.cls ≠ "java/lang/invoke/MethodHandle" ∧ y_Mod_count.1.cls ≠ "java/lang/invoke/VarHandle" ∧ (parseMethodDescriptor y_Mod_count.1.desc).map (fun d => d.parameters.length) = some 1 := ⟨(gk_8 (List.mem_of_getElem? (i := 79) rfl) rfl), cz_Mod, cx_Mod.1, cx_Mod.2, by decide +kernel⟩
set_option maxRecDepth 100000 in
theorem mi_Mod_count : Cond.instanceMethod y_Mod_count.1 ∈ gtb := (gk_8 (List.mem_of_getElem? (i := 77) rfl) rfl)
set_option maxRecDepth 100000 in
theorem mv_Mod_count : Cond.selects y_Mod_count.1.cls y_Mod_count.1 y_Mod_count.1 ∈ gtb := (gk_8 (List.mem_of_getElem? (i := 78) rfl) rfl)
set_option maxRecDepth 100000 in
theorem mo_Law0_148 : mOk R_law 148 1 y_Mod_count := ⟨Or.inl (gk_8 (List.mem_of_getElem? (i := 76) rfl) rfl), mk_Mod_count⟩
def dli_0 : List (Nat × Instr × Nat) := [(0, .new 7, 3), (3, .dup, 1), (4, .invokespecial 9, 3), (7, .astore_n 1, 1), (8, .new 10, 3), (11, .dup, 1), (12, .invokespecial 12, 3), (15, .astore_n 2, 1), (16, .iconst 0, 1), (17, .istore_n 3, 1), (18, .iload_n 3, 1), (19, .aload_n 0, 1), (20, .arraylength, 1), (21, .bipush 6, 2), (23, .isub, 1), (24, .if_icmp .gt 1124, 3), (27, .aload_n 0, 1), (28, .iload_n 3, 1), (29, .iaload, 1), (30, .bipush 31, 2), (32, .iand, 1), (33, .tableswitch 1109 0 31 #[143, 206, 229, 242, 255, 288, 321, 354, 387, 420, 443, 466, 489, 502, 555, 588, 621, 634, 677, 730, 753, 786, 819, 862, 915, 958, 971, 994, 1017, 1040, 1063, 1086], 143), (176, .aload_n 1, 1), (177, .aload_n 0, 1), (178, .iload_n 3, 1), (179, .iconst 1, 1), (180, .iadd, 1), (181, .iaload, 1), (182, .aload_n 0, 1), (183, .iload_n 3, 1), (184, .iconst 2, 1), (185, .iadd, 1), (186, .iaload, 1), (187, .aload_n 0, 1), (188, .iload_n 3, 1), (189, .iconst 3, 1), (190, .iadd, 1), (191, .iaload, 1), (192, .aload_n 0, 1), (193, .iload_n 3, 1)]
set_option maxRecDepth 100000 in
theorem dla_0 : ∀ q ∈ dli_0, decode code q.1 = .ok q.2 := by decide +kernel
theorem d_law_0 : decode code 0 = .ok (.new 7, 3) := dla_0 (0, .new 7, 3) (List.mem_of_getElem? (i := 0) rfl)
theorem d_law_3 : decode code 3 = .ok (.dup, 1) := dla_0 (3, .dup, 1) (List.mem_of_getElem? (i := 1) rfl)
theorem d_law_4 : decode code 4 = .ok (.invokespecial 9, 3) := dla_0 (4, .invokespecial 9, 3) (List.mem_of_getElem? (i := 2) rfl)
theorem d_law_7 : decode code 7 = .ok (.astore_n 1, 1) := dla_0 (7, .astore_n 1, 1) (List.mem_of_getElem? (i := 3) rfl)
theorem d_law_8 : decode code 8 = .ok (.new 10, 3) := dla_0 (8, .new 10, 3) (List.mem_of_getElem? (i := 4) rfl)
theorem d_law_11 : decode code 11 = .ok (.dup, 1) := dla_0 (11, .dup, 1) (List.mem_of_getElem? (i := 5) rfl)
theorem d_law_12 : decode code 12 = .ok (.invokespecial 12, 3) := dla_0 (12, .invokespecial 12, 3) (List.mem_of_getElem? (i := 6) rfl)
theorem d_law_15 : decode code 15 = .ok (.astore_n 2, 1) := dla_0 (15, .astore_n 2, 1) (List.mem_of_getElem? (i := 7) rfl)
theorem d_law_16 : decode code 16 = .ok (.iconst 0, 1) := dla_0 (16, .iconst 0, 1) (List.mem_of_getElem? (i := 8) rfl)
theorem d_law_17 : decode code 17 = .ok (.istore_n 3, 1) := dla_0 (17, .istore_n 3, 1) (List.mem_of_getElem? (i := 9) rfl)
theorem d_law_18 : decode code 18 = .ok (.iload_n 3, 1) := dla_0 (18, .iload_n 3, 1) (List.mem_of_getElem? (i := 10) rfl)
theorem d_law_19 : decode code 19 = .ok (.aload_n 0, 1) := dla_0 (19, .aload_n 0, 1) (List.mem_of_getElem? (i := 11) rfl)
theorem d_law_20 : decode code 20 = .ok (.arraylength, 1) := dla_0 (20, .arraylength, 1) (List.mem_of_getElem? (i := 12) rfl)
theorem d_law_21 : decode code 21 = .ok (.bipush 6, 2) := dla_0 (21, .bipush 6, 2) (List.mem_of_getElem? (i := 13) rfl)
theorem d_law_23 : decode code 23 = .ok (.isub, 1) := dla_0 (23, .isub, 1) (List.mem_of_getElem? (i := 14) rfl)
theorem d_law_24 : decode code 24 = .ok (.if_icmp .gt 1124, 3) := dla_0 (24, .if_icmp .gt 1124, 3) (List.mem_of_getElem? (i := 15) rfl)
theorem d_law_27 : decode code 27 = .ok (.aload_n 0, 1) := dla_0 (27, .aload_n 0, 1) (List.mem_of_getElem? (i := 16) rfl)
theorem d_law_28 : decode code 28 = .ok (.iload_n 3, 1) := dla_0 (28, .iload_n 3, 1) (List.mem_of_getElem? (i := 17) rfl)
theorem d_law_29 : decode code 29 = .ok (.iaload, 1) := dla_0 (29, .iaload, 1) (List.mem_of_getElem? (i := 18) rfl)
theorem d_law_30 : decode code 30 = .ok (.bipush 31, 2) := dla_0 (30, .bipush 31, 2) (List.mem_of_getElem? (i := 19) rfl)
theorem d_law_32 : decode code 32 = .ok (.iand, 1) := dla_0 (32, .iand, 1) (List.mem_of_getElem? (i := 20) rfl)
theorem d_law_33 : decode code 33 = .ok (.tableswitch 1109 0 31 #[143, 206, 229, 242, 255, 288, 321, 354, 387, 420, 443, 466, 489, 502, 555, 588, 621, 634, 677, 730, 753, 786, 819, 862, 915, 958, 971, 994, 1017, 1040, 1063, 1086], 143) := dla_0 (33, .tableswitch 1109 0 31 #[143, 206, 229, 242, 255, 288, 321, 354, 387, 420, 443, 466, 489, 502, 555, 588, 621, 634, 677, 730, 753, 786, 819, 862, 915, 958, 971, 994, 1017, 1040, 1063, 1086], 143) (List.mem_of_getElem? (i := 21) rfl)
theorem d_law_176 : decode code 176 = .ok (.aload_n 1, 1) := dla_0 (176, .aload_n 1, 1) (List.mem_of_getElem? (i := 22) rfl)
theorem d_law_177 : decode code 177 = .ok (.aload_n 0, 1) := dla_0 (177, .aload_n 0, 1) (List.mem_of_getElem? (i := 23) rfl)
theorem d_law_178 : decode code 178 = .ok (.iload_n 3, 1) := dla_0 (178, .iload_n 3, 1) (List.mem_of_getElem? (i := 24) rfl)
theorem d_law_179 : decode code 179 = .ok (.iconst 1, 1) := dla_0 (179, .iconst 1, 1) (List.mem_of_getElem? (i := 25) rfl)
theorem d_law_180 : decode code 180 = .ok (.iadd, 1) := dla_0 (180, .iadd, 1) (List.mem_of_getElem? (i := 26) rfl)
theorem d_law_181 : decode code 181 = .ok (.iaload, 1) := dla_0 (181, .iaload, 1) (List.mem_of_getElem? (i := 27) rfl)
theorem d_law_182 : decode code 182 = .ok (.aload_n 0, 1) := dla_0 (182, .aload_n 0, 1) (List.mem_of_getElem? (i := 28) rfl)
theorem d_law_183 : decode code 183 = .ok (.iload_n 3, 1) := dla_0 (183, .iload_n 3, 1) (List.mem_of_getElem? (i := 29) rfl)
theorem d_law_184 : decode code 184 = .ok (.iconst 2, 1) := dla_0 (184, .iconst 2, 1) (List.mem_of_getElem? (i := 30) rfl)
theorem d_law_185 : decode code 185 = .ok (.iadd, 1) := dla_0 (185, .iadd, 1) (List.mem_of_getElem? (i := 31) rfl)
theorem d_law_186 : decode code 186 = .ok (.iaload, 1) := dla_0 (186, .iaload, 1) (List.mem_of_getElem? (i := 32) rfl)
theorem d_law_187 : decode code 187 = .ok (.aload_n 0, 1) := dla_0 (187, .aload_n 0, 1) (List.mem_of_getElem? (i := 33) rfl)
theorem d_law_188 : decode code 188 = .ok (.iload_n 3, 1) := dla_0 (188, .iload_n 3, 1) (List.mem_of_getElem? (i := 34) rfl)
theorem d_law_189 : decode code 189 = .ok (.iconst 3, 1) := dla_0 (189, .iconst 3, 1) (List.mem_of_getElem? (i := 35) rfl)
theorem d_law_190 : decode code 190 = .ok (.iadd, 1) := dla_0 (190, .iadd, 1) (List.mem_of_getElem? (i := 36) rfl)
theorem d_law_191 : decode code 191 = .ok (.iaload, 1) := dla_0 (191, .iaload, 1) (List.mem_of_getElem? (i := 37) rfl)
theorem d_law_192 : decode code 192 = .ok (.aload_n 0, 1) := dla_0 (192, .aload_n 0, 1) (List.mem_of_getElem? (i := 38) rfl)
theorem d_law_193 : decode code 193 = .ok (.iload_n 3, 1) := dla_0 (193, .iload_n 3, 1) (List.mem_of_getElem? (i := 39) rfl)
def dli_1 : List (Nat × Instr × Nat) := [(194, .iconst 4, 1), (195, .iadd, 1), (196, .iaload, 1), (197, .aload_n 0, 1), (198, .iload_n 3, 1), (199, .iconst 5, 1), (200, .iadd, 1), (201, .iaload, 1), (202, .invokevirtual 13, 3), (205, .pop, 1), (206, .aload_n 2, 1), (207, .aload_n 0, 1), (208, .iload_n 3, 1), (209, .iconst 1, 1), (210, .iadd, 1), (211, .iaload, 1), (212, .aload_n 0, 1), (213, .iload_n 3, 1), (214, .iconst 2, 1), (215, .iadd, 1), (216, .iaload, 1), (217, .aload_n 0, 1), (218, .iload_n 3, 1), (219, .iconst 3, 1), (220, .iadd, 1), (221, .iaload, 1), (222, .aload_n 0, 1), (223, .iload_n 3, 1), (224, .iconst 4, 1), (225, .iadd, 1), (226, .iaload, 1), (227, .aload_n 0, 1), (228, .iload_n 3, 1), (229, .iconst 5, 1), (230, .iadd, 1), (231, .iaload, 1), (232, .invokevirtual 17, 3), (235, .pop, 1), (236, .goto 906, 3), (239, .aload_n 1, 1)]
set_option maxRecDepth 100000 in
theorem dla_1 : ∀ q ∈ dli_1, decode code q.1 = .ok q.2 := by decide +kernel
theorem d_law_194 : decode code 194 = .ok (.iconst 4, 1) := dla_1 (194, .iconst 4, 1) (List.mem_of_getElem? (i := 0) rfl)
theorem d_law_195 : decode code 195 = .ok (.iadd, 1) := dla_1 (195, .iadd, 1) (List.mem_of_getElem? (i := 1) rfl)
theorem d_law_196 : decode code 196 = .ok (.iaload, 1) := dla_1 (196, .iaload, 1) (List.mem_of_getElem? (i := 2) rfl)
theorem d_law_197 : decode code 197 = .ok (.aload_n 0, 1) := dla_1 (197, .aload_n 0, 1) (List.mem_of_getElem? (i := 3) rfl)
theorem d_law_198 : decode code 198 = .ok (.iload_n 3, 1) := dla_1 (198, .iload_n 3, 1) (List.mem_of_getElem? (i := 4) rfl)
theorem d_law_199 : decode code 199 = .ok (.iconst 5, 1) := dla_1 (199, .iconst 5, 1) (List.mem_of_getElem? (i := 5) rfl)
theorem d_law_200 : decode code 200 = .ok (.iadd, 1) := dla_1 (200, .iadd, 1) (List.mem_of_getElem? (i := 6) rfl)
theorem d_law_201 : decode code 201 = .ok (.iaload, 1) := dla_1 (201, .iaload, 1) (List.mem_of_getElem? (i := 7) rfl)
theorem d_law_202 : decode code 202 = .ok (.invokevirtual 13, 3) := dla_1 (202, .invokevirtual 13, 3) (List.mem_of_getElem? (i := 8) rfl)
theorem d_law_205 : decode code 205 = .ok (.pop, 1) := dla_1 (205, .pop, 1) (List.mem_of_getElem? (i := 9) rfl)
theorem d_law_206 : decode code 206 = .ok (.aload_n 2, 1) := dla_1 (206, .aload_n 2, 1) (List.mem_of_getElem? (i := 10) rfl)
theorem d_law_207 : decode code 207 = .ok (.aload_n 0, 1) := dla_1 (207, .aload_n 0, 1) (List.mem_of_getElem? (i := 11) rfl)
theorem d_law_208 : decode code 208 = .ok (.iload_n 3, 1) := dla_1 (208, .iload_n 3, 1) (List.mem_of_getElem? (i := 12) rfl)
theorem d_law_209 : decode code 209 = .ok (.iconst 1, 1) := dla_1 (209, .iconst 1, 1) (List.mem_of_getElem? (i := 13) rfl)
theorem d_law_210 : decode code 210 = .ok (.iadd, 1) := dla_1 (210, .iadd, 1) (List.mem_of_getElem? (i := 14) rfl)
theorem d_law_211 : decode code 211 = .ok (.iaload, 1) := dla_1 (211, .iaload, 1) (List.mem_of_getElem? (i := 15) rfl)
theorem d_law_212 : decode code 212 = .ok (.aload_n 0, 1) := dla_1 (212, .aload_n 0, 1) (List.mem_of_getElem? (i := 16) rfl)
theorem d_law_213 : decode code 213 = .ok (.iload_n 3, 1) := dla_1 (213, .iload_n 3, 1) (List.mem_of_getElem? (i := 17) rfl)
theorem d_law_214 : decode code 214 = .ok (.iconst 2, 1) := dla_1 (214, .iconst 2, 1) (List.mem_of_getElem? (i := 18) rfl)
theorem d_law_215 : decode code 215 = .ok (.iadd, 1) := dla_1 (215, .iadd, 1) (List.mem_of_getElem? (i := 19) rfl)
theorem d_law_216 : decode code 216 = .ok (.iaload, 1) := dla_1 (216, .iaload, 1) (List.mem_of_getElem? (i := 20) rfl)
theorem d_law_217 : decode code 217 = .ok (.aload_n 0, 1) := dla_1 (217, .aload_n 0, 1) (List.mem_of_getElem? (i := 21) rfl)
theorem d_law_218 : decode code 218 = .ok (.iload_n 3, 1) := dla_1 (218, .iload_n 3, 1) (List.mem_of_getElem? (i := 22) rfl)
theorem d_law_219 : decode code 219 = .ok (.iconst 3, 1) := dla_1 (219, .iconst 3, 1) (List.mem_of_getElem? (i := 23) rfl)
theorem d_law_220 : decode code 220 = .ok (.iadd, 1) := dla_1 (220, .iadd, 1) (List.mem_of_getElem? (i := 24) rfl)
theorem d_law_221 : decode code 221 = .ok (.iaload, 1) := dla_1 (221, .iaload, 1) (List.mem_of_getElem? (i := 25) rfl)
theorem d_law_222 : decode code 222 = .ok (.aload_n 0, 1) := dla_1 (222, .aload_n 0, 1) (List.mem_of_getElem? (i := 26) rfl)
theorem d_law_223 : decode code 223 = .ok (.iload_n 3, 1) := dla_1 (223, .iload_n 3, 1) (List.mem_of_getElem? (i := 27) rfl)
theorem d_law_224 : decode code 224 = .ok (.iconst 4, 1) := dla_1 (224, .iconst 4, 1) (List.mem_of_getElem? (i := 28) rfl)
theorem d_law_225 : decode code 225 = .ok (.iadd, 1) := dla_1 (225, .iadd, 1) (List.mem_of_getElem? (i := 29) rfl)
theorem d_law_226 : decode code 226 = .ok (.iaload, 1) := dla_1 (226, .iaload, 1) (List.mem_of_getElem? (i := 30) rfl)
theorem d_law_227 : decode code 227 = .ok (.aload_n 0, 1) := dla_1 (227, .aload_n 0, 1) (List.mem_of_getElem? (i := 31) rfl)
theorem d_law_228 : decode code 228 = .ok (.iload_n 3, 1) := dla_1 (228, .iload_n 3, 1) (List.mem_of_getElem? (i := 32) rfl)
theorem d_law_229 : decode code 229 = .ok (.iconst 5, 1) := dla_1 (229, .iconst 5, 1) (List.mem_of_getElem? (i := 33) rfl)
theorem d_law_230 : decode code 230 = .ok (.iadd, 1) := dla_1 (230, .iadd, 1) (List.mem_of_getElem? (i := 34) rfl)
theorem d_law_231 : decode code 231 = .ok (.iaload, 1) := dla_1 (231, .iaload, 1) (List.mem_of_getElem? (i := 35) rfl)
theorem d_law_232 : decode code 232 = .ok (.invokevirtual 17, 3) := dla_1 (232, .invokevirtual 17, 3) (List.mem_of_getElem? (i := 36) rfl)
theorem d_law_235 : decode code 235 = .ok (.pop, 1) := dla_1 (235, .pop, 1) (List.mem_of_getElem? (i := 37) rfl)
theorem d_law_236 : decode code 236 = .ok (.goto 906, 3) := dla_1 (236, .goto 906, 3) (List.mem_of_getElem? (i := 38) rfl)
theorem d_law_239 : decode code 239 = .ok (.aload_n 1, 1) := dla_1 (239, .aload_n 1, 1) (List.mem_of_getElem? (i := 39) rfl)
def dli_2 : List (Nat × Instr × Nat) := [(240, .aload_n 0, 1), (241, .iload_n 3, 1), (242, .iconst 1, 1), (243, .iadd, 1), (244, .iaload, 1), (245, .invokevirtual 18, 3), (248, .pop, 1), (249, .aload_n 2, 1), (250, .aload_n 0, 1), (251, .iload_n 3, 1), (252, .iconst 1, 1), (253, .iadd, 1), (254, .iaload, 1), (255, .invokevirtual 22, 3), (258, .pop, 1), (259, .goto 883, 3), (262, .aload_n 1, 1), (263, .invokevirtual 23, 3), (266, .pop, 1), (267, .aload_n 2, 1), (268, .invokevirtual 27, 3), (271, .pop, 1), (272, .goto 870, 3), (275, .aload_n 1, 1), (276, .invokevirtual 28, 3), (279, .pop, 1), (280, .aload_n 2, 1), (281, .invokevirtual 31, 3), (284, .pop, 1), (285, .goto 857, 3), (288, .aload_n 1, 1), (289, .aload_n 0, 1), (290, .iload_n 3, 1), (291, .iconst 1, 1), (292, .iadd, 1), (293, .iaload, 1), (294, .aload_n 0, 1), (295, .iload_n 3, 1), (296, .iconst 2, 1), (297, .iadd, 1)]
set_option maxRecDepth 100000 in
theorem dla_2 : ∀ q ∈ dli_2, decode code q.1 = .ok q.2 := by decide +kernel
theorem d_law_240 : decode code 240 = .ok (.aload_n 0, 1) := dla_2 (240, .aload_n 0, 1) (List.mem_of_getElem? (i := 0) rfl)
theorem d_law_241 : decode code 241 = .ok (.iload_n 3, 1) := dla_2 (241, .iload_n 3, 1) (List.mem_of_getElem? (i := 1) rfl)
theorem d_law_242 : decode code 242 = .ok (.iconst 1, 1) := dla_2 (242, .iconst 1, 1) (List.mem_of_getElem? (i := 2) rfl)
theorem d_law_243 : decode code 243 = .ok (.iadd, 1) := dla_2 (243, .iadd, 1) (List.mem_of_getElem? (i := 3) rfl)
theorem d_law_244 : decode code 244 = .ok (.iaload, 1) := dla_2 (244, .iaload, 1) (List.mem_of_getElem? (i := 4) rfl)
theorem d_law_245 : decode code 245 = .ok (.invokevirtual 18, 3) := dla_2 (245, .invokevirtual 18, 3) (List.mem_of_getElem? (i := 5) rfl)
theorem d_law_248 : decode code 248 = .ok (.pop, 1) := dla_2 (248, .pop, 1) (List.mem_of_getElem? (i := 6) rfl)
theorem d_law_249 : decode code 249 = .ok (.aload_n 2, 1) := dla_2 (249, .aload_n 2, 1) (List.mem_of_getElem? (i := 7) rfl)
theorem d_law_250 : decode code 250 = .ok (.aload_n 0, 1) := dla_2 (250, .aload_n 0, 1) (List.mem_of_getElem? (i := 8) rfl)
theorem d_law_251 : decode code 251 = .ok (.iload_n 3, 1) := dla_2 (251, .iload_n 3, 1) (List.mem_of_getElem? (i := 9) rfl)
theorem d_law_252 : decode code 252 = .ok (.iconst 1, 1) := dla_2 (252, .iconst 1, 1) (List.mem_of_getElem? (i := 10) rfl)
theorem d_law_253 : decode code 253 = .ok (.iadd, 1) := dla_2 (253, .iadd, 1) (List.mem_of_getElem? (i := 11) rfl)
theorem d_law_254 : decode code 254 = .ok (.iaload, 1) := dla_2 (254, .iaload, 1) (List.mem_of_getElem? (i := 12) rfl)
theorem d_law_255 : decode code 255 = .ok (.invokevirtual 22, 3) := dla_2 (255, .invokevirtual 22, 3) (List.mem_of_getElem? (i := 13) rfl)
theorem d_law_258 : decode code 258 = .ok (.pop, 1) := dla_2 (258, .pop, 1) (List.mem_of_getElem? (i := 14) rfl)
theorem d_law_259 : decode code 259 = .ok (.goto 883, 3) := dla_2 (259, .goto 883, 3) (List.mem_of_getElem? (i := 15) rfl)
theorem d_law_262 : decode code 262 = .ok (.aload_n 1, 1) := dla_2 (262, .aload_n 1, 1) (List.mem_of_getElem? (i := 16) rfl)
theorem d_law_263 : decode code 263 = .ok (.invokevirtual 23, 3) := dla_2 (263, .invokevirtual 23, 3) (List.mem_of_getElem? (i := 17) rfl)
theorem d_law_266 : decode code 266 = .ok (.pop, 1) := dla_2 (266, .pop, 1) (List.mem_of_getElem? (i := 18) rfl)
theorem d_law_267 : decode code 267 = .ok (.aload_n 2, 1) := dla_2 (267, .aload_n 2, 1) (List.mem_of_getElem? (i := 19) rfl)
theorem d_law_268 : decode code 268 = .ok (.invokevirtual 27, 3) := dla_2 (268, .invokevirtual 27, 3) (List.mem_of_getElem? (i := 20) rfl)
theorem d_law_271 : decode code 271 = .ok (.pop, 1) := dla_2 (271, .pop, 1) (List.mem_of_getElem? (i := 21) rfl)
theorem d_law_272 : decode code 272 = .ok (.goto 870, 3) := dla_2 (272, .goto 870, 3) (List.mem_of_getElem? (i := 22) rfl)
theorem d_law_275 : decode code 275 = .ok (.aload_n 1, 1) := dla_2 (275, .aload_n 1, 1) (List.mem_of_getElem? (i := 23) rfl)
theorem d_law_276 : decode code 276 = .ok (.invokevirtual 28, 3) := dla_2 (276, .invokevirtual 28, 3) (List.mem_of_getElem? (i := 24) rfl)
theorem d_law_279 : decode code 279 = .ok (.pop, 1) := dla_2 (279, .pop, 1) (List.mem_of_getElem? (i := 25) rfl)
theorem d_law_280 : decode code 280 = .ok (.aload_n 2, 1) := dla_2 (280, .aload_n 2, 1) (List.mem_of_getElem? (i := 26) rfl)
theorem d_law_281 : decode code 281 = .ok (.invokevirtual 31, 3) := dla_2 (281, .invokevirtual 31, 3) (List.mem_of_getElem? (i := 27) rfl)
theorem d_law_284 : decode code 284 = .ok (.pop, 1) := dla_2 (284, .pop, 1) (List.mem_of_getElem? (i := 28) rfl)
theorem d_law_285 : decode code 285 = .ok (.goto 857, 3) := dla_2 (285, .goto 857, 3) (List.mem_of_getElem? (i := 29) rfl)
theorem d_law_288 : decode code 288 = .ok (.aload_n 1, 1) := dla_2 (288, .aload_n 1, 1) (List.mem_of_getElem? (i := 30) rfl)
theorem d_law_289 : decode code 289 = .ok (.aload_n 0, 1) := dla_2 (289, .aload_n 0, 1) (List.mem_of_getElem? (i := 31) rfl)
theorem d_law_290 : decode code 290 = .ok (.iload_n 3, 1) := dla_2 (290, .iload_n 3, 1) (List.mem_of_getElem? (i := 32) rfl)
theorem d_law_291 : decode code 291 = .ok (.iconst 1, 1) := dla_2 (291, .iconst 1, 1) (List.mem_of_getElem? (i := 33) rfl)
theorem d_law_292 : decode code 292 = .ok (.iadd, 1) := dla_2 (292, .iadd, 1) (List.mem_of_getElem? (i := 34) rfl)
theorem d_law_293 : decode code 293 = .ok (.iaload, 1) := dla_2 (293, .iaload, 1) (List.mem_of_getElem? (i := 35) rfl)
theorem d_law_294 : decode code 294 = .ok (.aload_n 0, 1) := dla_2 (294, .aload_n 0, 1) (List.mem_of_getElem? (i := 36) rfl)
theorem d_law_295 : decode code 295 = .ok (.iload_n 3, 1) := dla_2 (295, .iload_n 3, 1) (List.mem_of_getElem? (i := 37) rfl)
theorem d_law_296 : decode code 296 = .ok (.iconst 2, 1) := dla_2 (296, .iconst 2, 1) (List.mem_of_getElem? (i := 38) rfl)
theorem d_law_297 : decode code 297 = .ok (.iadd, 1) := dla_2 (297, .iadd, 1) (List.mem_of_getElem? (i := 39) rfl)
def dli_3 : List (Nat × Instr × Nat) := [(298, .iaload, 1), (299, .invokevirtual 32, 3), (302, .pop, 1), (303, .aload_n 2, 1), (304, .aload_n 0, 1), (305, .iload_n 3, 1), (306, .iconst 1, 1), (307, .iadd, 1), (308, .iaload, 1), (309, .aload_n 0, 1), (310, .iload_n 3, 1), (311, .iconst 2, 1), (312, .iadd, 1), (313, .iaload, 1), (314, .invokevirtual 36, 3), (317, .pop, 1), (318, .goto 824, 3), (321, .aload_n 1, 1), (322, .aload_n 0, 1), (323, .iload_n 3, 1), (324, .iconst 1, 1), (325, .iadd, 1), (326, .iaload, 1), (327, .aload_n 0, 1), (328, .iload_n 3, 1), (329, .iconst 2, 1), (330, .iadd, 1), (331, .iaload, 1), (332, .invokevirtual 37, 3), (335, .pop, 1), (336, .aload_n 2, 1), (337, .aload_n 0, 1), (338, .iload_n 3, 1), (339, .iconst 1, 1), (340, .iadd, 1), (341, .iaload, 1), (342, .aload_n 0, 1), (343, .iload_n 3, 1), (344, .iconst 2, 1), (345, .iadd, 1)]
set_option maxRecDepth 100000 in
theorem dla_3 : ∀ q ∈ dli_3, decode code q.1 = .ok q.2 := by decide +kernel
theorem d_law_298 : decode code 298 = .ok (.iaload, 1) := dla_3 (298, .iaload, 1) (List.mem_of_getElem? (i := 0) rfl)
theorem d_law_299 : decode code 299 = .ok (.invokevirtual 32, 3) := dla_3 (299, .invokevirtual 32, 3) (List.mem_of_getElem? (i := 1) rfl)
theorem d_law_302 : decode code 302 = .ok (.pop, 1) := dla_3 (302, .pop, 1) (List.mem_of_getElem? (i := 2) rfl)
theorem d_law_303 : decode code 303 = .ok (.aload_n 2, 1) := dla_3 (303, .aload_n 2, 1) (List.mem_of_getElem? (i := 3) rfl)
theorem d_law_304 : decode code 304 = .ok (.aload_n 0, 1) := dla_3 (304, .aload_n 0, 1) (List.mem_of_getElem? (i := 4) rfl)
theorem d_law_305 : decode code 305 = .ok (.iload_n 3, 1) := dla_3 (305, .iload_n 3, 1) (List.mem_of_getElem? (i := 5) rfl)
theorem d_law_306 : decode code 306 = .ok (.iconst 1, 1) := dla_3 (306, .iconst 1, 1) (List.mem_of_getElem? (i := 6) rfl)
theorem d_law_307 : decode code 307 = .ok (.iadd, 1) := dla_3 (307, .iadd, 1) (List.mem_of_getElem? (i := 7) rfl)
theorem d_law_308 : decode code 308 = .ok (.iaload, 1) := dla_3 (308, .iaload, 1) (List.mem_of_getElem? (i := 8) rfl)
theorem d_law_309 : decode code 309 = .ok (.aload_n 0, 1) := dla_3 (309, .aload_n 0, 1) (List.mem_of_getElem? (i := 9) rfl)
theorem d_law_310 : decode code 310 = .ok (.iload_n 3, 1) := dla_3 (310, .iload_n 3, 1) (List.mem_of_getElem? (i := 10) rfl)
theorem d_law_311 : decode code 311 = .ok (.iconst 2, 1) := dla_3 (311, .iconst 2, 1) (List.mem_of_getElem? (i := 11) rfl)
theorem d_law_312 : decode code 312 = .ok (.iadd, 1) := dla_3 (312, .iadd, 1) (List.mem_of_getElem? (i := 12) rfl)
theorem d_law_313 : decode code 313 = .ok (.iaload, 1) := dla_3 (313, .iaload, 1) (List.mem_of_getElem? (i := 13) rfl)
theorem d_law_314 : decode code 314 = .ok (.invokevirtual 36, 3) := dla_3 (314, .invokevirtual 36, 3) (List.mem_of_getElem? (i := 14) rfl)
theorem d_law_317 : decode code 317 = .ok (.pop, 1) := dla_3 (317, .pop, 1) (List.mem_of_getElem? (i := 15) rfl)
theorem d_law_318 : decode code 318 = .ok (.goto 824, 3) := dla_3 (318, .goto 824, 3) (List.mem_of_getElem? (i := 16) rfl)
theorem d_law_321 : decode code 321 = .ok (.aload_n 1, 1) := dla_3 (321, .aload_n 1, 1) (List.mem_of_getElem? (i := 17) rfl)
theorem d_law_322 : decode code 322 = .ok (.aload_n 0, 1) := dla_3 (322, .aload_n 0, 1) (List.mem_of_getElem? (i := 18) rfl)
theorem d_law_323 : decode code 323 = .ok (.iload_n 3, 1) := dla_3 (323, .iload_n 3, 1) (List.mem_of_getElem? (i := 19) rfl)
theorem d_law_324 : decode code 324 = .ok (.iconst 1, 1) := dla_3 (324, .iconst 1, 1) (List.mem_of_getElem? (i := 20) rfl)
theorem d_law_325 : decode code 325 = .ok (.iadd, 1) := dla_3 (325, .iadd, 1) (List.mem_of_getElem? (i := 21) rfl)
theorem d_law_326 : decode code 326 = .ok (.iaload, 1) := dla_3 (326, .iaload, 1) (List.mem_of_getElem? (i := 22) rfl)
theorem d_law_327 : decode code 327 = .ok (.aload_n 0, 1) := dla_3 (327, .aload_n 0, 1) (List.mem_of_getElem? (i := 23) rfl)
theorem d_law_328 : decode code 328 = .ok (.iload_n 3, 1) := dla_3 (328, .iload_n 3, 1) (List.mem_of_getElem? (i := 24) rfl)
theorem d_law_329 : decode code 329 = .ok (.iconst 2, 1) := dla_3 (329, .iconst 2, 1) (List.mem_of_getElem? (i := 25) rfl)
theorem d_law_330 : decode code 330 = .ok (.iadd, 1) := dla_3 (330, .iadd, 1) (List.mem_of_getElem? (i := 26) rfl)
theorem d_law_331 : decode code 331 = .ok (.iaload, 1) := dla_3 (331, .iaload, 1) (List.mem_of_getElem? (i := 27) rfl)
theorem d_law_332 : decode code 332 = .ok (.invokevirtual 37, 3) := dla_3 (332, .invokevirtual 37, 3) (List.mem_of_getElem? (i := 28) rfl)
theorem d_law_335 : decode code 335 = .ok (.pop, 1) := dla_3 (335, .pop, 1) (List.mem_of_getElem? (i := 29) rfl)
theorem d_law_336 : decode code 336 = .ok (.aload_n 2, 1) := dla_3 (336, .aload_n 2, 1) (List.mem_of_getElem? (i := 30) rfl)
theorem d_law_337 : decode code 337 = .ok (.aload_n 0, 1) := dla_3 (337, .aload_n 0, 1) (List.mem_of_getElem? (i := 31) rfl)
theorem d_law_338 : decode code 338 = .ok (.iload_n 3, 1) := dla_3 (338, .iload_n 3, 1) (List.mem_of_getElem? (i := 32) rfl)
theorem d_law_339 : decode code 339 = .ok (.iconst 1, 1) := dla_3 (339, .iconst 1, 1) (List.mem_of_getElem? (i := 33) rfl)
theorem d_law_340 : decode code 340 = .ok (.iadd, 1) := dla_3 (340, .iadd, 1) (List.mem_of_getElem? (i := 34) rfl)
theorem d_law_341 : decode code 341 = .ok (.iaload, 1) := dla_3 (341, .iaload, 1) (List.mem_of_getElem? (i := 35) rfl)
theorem d_law_342 : decode code 342 = .ok (.aload_n 0, 1) := dla_3 (342, .aload_n 0, 1) (List.mem_of_getElem? (i := 36) rfl)
theorem d_law_343 : decode code 343 = .ok (.iload_n 3, 1) := dla_3 (343, .iload_n 3, 1) (List.mem_of_getElem? (i := 37) rfl)
theorem d_law_344 : decode code 344 = .ok (.iconst 2, 1) := dla_3 (344, .iconst 2, 1) (List.mem_of_getElem? (i := 38) rfl)
theorem d_law_345 : decode code 345 = .ok (.iadd, 1) := dla_3 (345, .iadd, 1) (List.mem_of_getElem? (i := 39) rfl)
def dli_4 : List (Nat × Instr × Nat) := [(346, .iaload, 1), (347, .invokevirtual 40, 3), (350, .pop, 1), (351, .goto 791, 3), (354, .aload_n 1, 1), (355, .aload_n 0, 1), (356, .iload_n 3, 1), (357, .iconst 1, 1), (358, .iadd, 1), (359, .iaload, 1), (360, .aload_n 0, 1), (361, .iload_n 3, 1), (362, .iconst 2, 1), (363, .iadd, 1), (364, .iaload, 1), (365, .invokevirtual 41, 3), (368, .pop, 1), (369, .aload_n 2, 1), (370, .aload_n 0, 1), (371, .iload_n 3, 1), (372, .iconst 1, 1), (373, .iadd, 1), (374, .iaload, 1), (375, .aload_n 0, 1), (376, .iload_n 3, 1), (377, .iconst 2, 1), (378, .iadd, 1), (379, .iaload, 1), (380, .invokevirtual 44, 3), (383, .pop, 1), (384, .goto 758, 3), (387, .aload_n 1, 1), (388, .aload_n 0, 1), (389, .iload_n 3, 1), (390, .iconst 1, 1), (391, .iadd, 1), (392, .iaload, 1), (393, .aload_n 0, 1), (394, .iload_n 3, 1), (395, .iconst 2, 1)]
set_option maxRecDepth 100000 in
theorem dla_4 : ∀ q ∈ dli_4, decode code q.1 = .ok q.2 := by decide +kernel
theorem d_law_346 : decode code 346 = .ok (.iaload, 1) := dla_4 (346, .iaload, 1) (List.mem_of_getElem? (i := 0) rfl)
theorem d_law_347 : decode code 347 = .ok (.invokevirtual 40, 3) := dla_4 (347, .invokevirtual 40, 3) (List.mem_of_getElem? (i := 1) rfl)
theorem d_law_350 : decode code 350 = .ok (.pop, 1) := dla_4 (350, .pop, 1) (List.mem_of_getElem? (i := 2) rfl)
theorem d_law_351 : decode code 351 = .ok (.goto 791, 3) := dla_4 (351, .goto 791, 3) (List.mem_of_getElem? (i := 3) rfl)
theorem d_law_354 : decode code 354 = .ok (.aload_n 1, 1) := dla_4 (354, .aload_n 1, 1) (List.mem_of_getElem? (i := 4) rfl)
theorem d_law_355 : decode code 355 = .ok (.aload_n 0, 1) := dla_4 (355, .aload_n 0, 1) (List.mem_of_getElem? (i := 5) rfl)
theorem d_law_356 : decode code 356 = .ok (.iload_n 3, 1) := dla_4 (356, .iload_n 3, 1) (List.mem_of_getElem? (i := 6) rfl)
theorem d_law_357 : decode code 357 = .ok (.iconst 1, 1) := dla_4 (357, .iconst 1, 1) (List.mem_of_getElem? (i := 7) rfl)
theorem d_law_358 : decode code 358 = .ok (.iadd, 1) := dla_4 (358, .iadd, 1) (List.mem_of_getElem? (i := 8) rfl)
theorem d_law_359 : decode code 359 = .ok (.iaload, 1) := dla_4 (359, .iaload, 1) (List.mem_of_getElem? (i := 9) rfl)
theorem d_law_360 : decode code 360 = .ok (.aload_n 0, 1) := dla_4 (360, .aload_n 0, 1) (List.mem_of_getElem? (i := 10) rfl)
theorem d_law_361 : decode code 361 = .ok (.iload_n 3, 1) := dla_4 (361, .iload_n 3, 1) (List.mem_of_getElem? (i := 11) rfl)
theorem d_law_362 : decode code 362 = .ok (.iconst 2, 1) := dla_4 (362, .iconst 2, 1) (List.mem_of_getElem? (i := 12) rfl)
theorem d_law_363 : decode code 363 = .ok (.iadd, 1) := dla_4 (363, .iadd, 1) (List.mem_of_getElem? (i := 13) rfl)
theorem d_law_364 : decode code 364 = .ok (.iaload, 1) := dla_4 (364, .iaload, 1) (List.mem_of_getElem? (i := 14) rfl)
theorem d_law_365 : decode code 365 = .ok (.invokevirtual 41, 3) := dla_4 (365, .invokevirtual 41, 3) (List.mem_of_getElem? (i := 15) rfl)
theorem d_law_368 : decode code 368 = .ok (.pop, 1) := dla_4 (368, .pop, 1) (List.mem_of_getElem? (i := 16) rfl)
theorem d_law_369 : decode code 369 = .ok (.aload_n 2, 1) := dla_4 (369, .aload_n 2, 1) (List.mem_of_getElem? (i := 17) rfl)
theorem d_law_370 : decode code 370 = .ok (.aload_n 0, 1) := dla_4 (370, .aload_n 0, 1) (List.mem_of_getElem? (i := 18) rfl)
theorem d_law_371 : decode code 371 = .ok (.iload_n 3, 1) := dla_4 (371, .iload_n 3, 1) (List.mem_of_getElem? (i := 19) rfl)
theorem d_law_372 : decode code 372 = .ok (.iconst 1, 1) := dla_4 (372, .iconst 1, 1) (List.mem_of_getElem? (i := 20) rfl)
theorem d_law_373 : decode code 373 = .ok (.iadd, 1) := dla_4 (373, .iadd, 1) (List.mem_of_getElem? (i := 21) rfl)
theorem d_law_374 : decode code 374 = .ok (.iaload, 1) := dla_4 (374, .iaload, 1) (List.mem_of_getElem? (i := 22) rfl)
theorem d_law_375 : decode code 375 = .ok (.aload_n 0, 1) := dla_4 (375, .aload_n 0, 1) (List.mem_of_getElem? (i := 23) rfl)
theorem d_law_376 : decode code 376 = .ok (.iload_n 3, 1) := dla_4 (376, .iload_n 3, 1) (List.mem_of_getElem? (i := 24) rfl)
theorem d_law_377 : decode code 377 = .ok (.iconst 2, 1) := dla_4 (377, .iconst 2, 1) (List.mem_of_getElem? (i := 25) rfl)
theorem d_law_378 : decode code 378 = .ok (.iadd, 1) := dla_4 (378, .iadd, 1) (List.mem_of_getElem? (i := 26) rfl)
theorem d_law_379 : decode code 379 = .ok (.iaload, 1) := dla_4 (379, .iaload, 1) (List.mem_of_getElem? (i := 27) rfl)
theorem d_law_380 : decode code 380 = .ok (.invokevirtual 44, 3) := dla_4 (380, .invokevirtual 44, 3) (List.mem_of_getElem? (i := 28) rfl)
theorem d_law_383 : decode code 383 = .ok (.pop, 1) := dla_4 (383, .pop, 1) (List.mem_of_getElem? (i := 29) rfl)
theorem d_law_384 : decode code 384 = .ok (.goto 758, 3) := dla_4 (384, .goto 758, 3) (List.mem_of_getElem? (i := 30) rfl)
theorem d_law_387 : decode code 387 = .ok (.aload_n 1, 1) := dla_4 (387, .aload_n 1, 1) (List.mem_of_getElem? (i := 31) rfl)
theorem d_law_388 : decode code 388 = .ok (.aload_n 0, 1) := dla_4 (388, .aload_n 0, 1) (List.mem_of_getElem? (i := 32) rfl)
theorem d_law_389 : decode code 389 = .ok (.iload_n 3, 1) := dla_4 (389, .iload_n 3, 1) (List.mem_of_getElem? (i := 33) rfl)
theorem d_law_390 : decode code 390 = .ok (.iconst 1, 1) := dla_4 (390, .iconst 1, 1) (List.mem_of_getElem? (i := 34) rfl)
theorem d_law_391 : decode code 391 = .ok (.iadd, 1) := dla_4 (391, .iadd, 1) (List.mem_of_getElem? (i := 35) rfl)
theorem d_law_392 : decode code 392 = .ok (.iaload, 1) := dla_4 (392, .iaload, 1) (List.mem_of_getElem? (i := 36) rfl)
theorem d_law_393 : decode code 393 = .ok (.aload_n 0, 1) := dla_4 (393, .aload_n 0, 1) (List.mem_of_getElem? (i := 37) rfl)
theorem d_law_394 : decode code 394 = .ok (.iload_n 3, 1) := dla_4 (394, .iload_n 3, 1) (List.mem_of_getElem? (i := 38) rfl)
theorem d_law_395 : decode code 395 = .ok (.iconst 2, 1) := dla_4 (395, .iconst 2, 1) (List.mem_of_getElem? (i := 39) rfl)
def dli_5 : List (Nat × Instr × Nat) := [(396, .iadd, 1), (397, .iaload, 1), (398, .invokevirtual 45, 3), (401, .pop, 1), (402, .aload_n 2, 1), (403, .aload_n 0, 1), (404, .iload_n 3, 1), (405, .iconst 1, 1), (406, .iadd, 1), (407, .iaload, 1), (408, .aload_n 0, 1), (409, .iload_n 3, 1), (410, .iconst 2, 1), (411, .iadd, 1), (412, .iaload, 1), (413, .invokevirtual 48, 3), (416, .pop, 1), (417, .goto 725, 3), (420, .aload_n 1, 1), (421, .aload_n 0, 1), (422, .iload_n 3, 1), (423, .iconst 1, 1), (424, .iadd, 1), (425, .iaload, 1), (426, .aload_n 0, 1), (427, .iload_n 3, 1), (428, .iconst 2, 1), (429, .iadd, 1), (430, .iaload, 1), (431, .invokevirtual 49, 3), (434, .pop, 1), (435, .aload_n 2, 1), (436, .aload_n 0, 1), (437, .iload_n 3, 1), (438, .iconst 1, 1), (439, .iadd, 1), (440, .iaload, 1), (441, .aload_n 0, 1), (442, .iload_n 3, 1), (443, .iconst 2, 1)]
set_option maxRecDepth 100000 in
theorem dla_5 : ∀ q ∈ dli_5, decode code q.1 = .ok q.2 := by decide +kernel
theorem d_law_396 : decode code 396 = .ok (.iadd, 1) := dla_5 (396, .iadd, 1) (List.mem_of_getElem? (i := 0) rfl)
theorem d_law_397 : decode code 397 = .ok (.iaload, 1) := dla_5 (397, .iaload, 1) (List.mem_of_getElem? (i := 1) rfl)
theorem d_law_398 : decode code 398 = .ok (.invokevirtual 45, 3) := dla_5 (398, .invokevirtual 45, 3) (List.mem_of_getElem? (i := 2) rfl)
theorem d_law_401 : decode code 401 = .ok (.pop, 1) := dla_5 (401, .pop, 1) (List.mem_of_getElem? (i := 3) rfl)
theorem d_law_402 : decode code 402 = .ok (.aload_n 2, 1) := dla_5 (402, .aload_n 2, 1) (List.mem_of_getElem? (i := 4) rfl)
theorem d_law_403 : decode code 403 = .ok (.aload_n 0, 1) := dla_5 (403, .aload_n 0, 1) (List.mem_of_getElem? (i := 5) rfl)
theorem d_law_404 : decode code 404 = .ok (.iload_n 3, 1) := dla_5 (404, .iload_n 3, 1) (List.mem_of_getElem? (i := 6) rfl)
theorem d_law_405 : decode code 405 = .ok (.iconst 1, 1) := dla_5 (405, .iconst 1, 1) (List.mem_of_getElem? (i := 7) rfl)
theorem d_law_406 : decode code 406 = .ok (.iadd, 1) := dla_5 (406, .iadd, 1) (List.mem_of_getElem? (i := 8) rfl)
theorem d_law_407 : decode code 407 = .ok (.iaload, 1) := dla_5 (407, .iaload, 1) (List.mem_of_getElem? (i := 9) rfl)
theorem d_law_408 : decode code 408 = .ok (.aload_n 0, 1) := dla_5 (408, .aload_n 0, 1) (List.mem_of_getElem? (i := 10) rfl)
theorem d_law_409 : decode code 409 = .ok (.iload_n 3, 1) := dla_5 (409, .iload_n 3, 1) (List.mem_of_getElem? (i := 11) rfl)
theorem d_law_410 : decode code 410 = .ok (.iconst 2, 1) := dla_5 (410, .iconst 2, 1) (List.mem_of_getElem? (i := 12) rfl)
theorem d_law_411 : decode code 411 = .ok (.iadd, 1) := dla_5 (411, .iadd, 1) (List.mem_of_getElem? (i := 13) rfl)
theorem d_law_412 : decode code 412 = .ok (.iaload, 1) := dla_5 (412, .iaload, 1) (List.mem_of_getElem? (i := 14) rfl)
theorem d_law_413 : decode code 413 = .ok (.invokevirtual 48, 3) := dla_5 (413, .invokevirtual 48, 3) (List.mem_of_getElem? (i := 15) rfl)
theorem d_law_416 : decode code 416 = .ok (.pop, 1) := dla_5 (416, .pop, 1) (List.mem_of_getElem? (i := 16) rfl)
theorem d_law_417 : decode code 417 = .ok (.goto 725, 3) := dla_5 (417, .goto 725, 3) (List.mem_of_getElem? (i := 17) rfl)
theorem d_law_420 : decode code 420 = .ok (.aload_n 1, 1) := dla_5 (420, .aload_n 1, 1) (List.mem_of_getElem? (i := 18) rfl)
theorem d_law_421 : decode code 421 = .ok (.aload_n 0, 1) := dla_5 (421, .aload_n 0, 1) (List.mem_of_getElem? (i := 19) rfl)
theorem d_law_422 : decode code 422 = .ok (.iload_n 3, 1) := dla_5 (422, .iload_n 3, 1) (List.mem_of_getElem? (i := 20) rfl)
theorem d_law_423 : decode code 423 = .ok (.iconst 1, 1) := dla_5 (423, .iconst 1, 1) (List.mem_of_getElem? (i := 21) rfl)
theorem d_law_424 : decode code 424 = .ok (.iadd, 1) := dla_5 (424, .iadd, 1) (List.mem_of_getElem? (i := 22) rfl)
theorem d_law_425 : decode code 425 = .ok (.iaload, 1) := dla_5 (425, .iaload, 1) (List.mem_of_getElem? (i := 23) rfl)
theorem d_law_426 : decode code 426 = .ok (.aload_n 0, 1) := dla_5 (426, .aload_n 0, 1) (List.mem_of_getElem? (i := 24) rfl)
theorem d_law_427 : decode code 427 = .ok (.iload_n 3, 1) := dla_5 (427, .iload_n 3, 1) (List.mem_of_getElem? (i := 25) rfl)
theorem d_law_428 : decode code 428 = .ok (.iconst 2, 1) := dla_5 (428, .iconst 2, 1) (List.mem_of_getElem? (i := 26) rfl)
theorem d_law_429 : decode code 429 = .ok (.iadd, 1) := dla_5 (429, .iadd, 1) (List.mem_of_getElem? (i := 27) rfl)
theorem d_law_430 : decode code 430 = .ok (.iaload, 1) := dla_5 (430, .iaload, 1) (List.mem_of_getElem? (i := 28) rfl)
theorem d_law_431 : decode code 431 = .ok (.invokevirtual 49, 3) := dla_5 (431, .invokevirtual 49, 3) (List.mem_of_getElem? (i := 29) rfl)
theorem d_law_434 : decode code 434 = .ok (.pop, 1) := dla_5 (434, .pop, 1) (List.mem_of_getElem? (i := 30) rfl)
theorem d_law_435 : decode code 435 = .ok (.aload_n 2, 1) := dla_5 (435, .aload_n 2, 1) (List.mem_of_getElem? (i := 31) rfl)
theorem d_law_436 : decode code 436 = .ok (.aload_n 0, 1) := dla_5 (436, .aload_n 0, 1) (List.mem_of_getElem? (i := 32) rfl)
theorem d_law_437 : decode code 437 = .ok (.iload_n 3, 1) := dla_5 (437, .iload_n 3, 1) (List.mem_of_getElem? (i := 33) rfl)
theorem d_law_438 : decode code 438 = .ok (.iconst 1, 1) := dla_5 (438, .iconst 1, 1) (List.mem_of_getElem? (i := 34) rfl)
theorem d_law_439 : decode code 439 = .ok (.iadd, 1) := dla_5 (439, .iadd, 1) (List.mem_of_getElem? (i := 35) rfl)
theorem d_law_440 : decode code 440 = .ok (.iaload, 1) := dla_5 (440, .iaload, 1) (List.mem_of_getElem? (i := 36) rfl)
theorem d_law_441 : decode code 441 = .ok (.aload_n 0, 1) := dla_5 (441, .aload_n 0, 1) (List.mem_of_getElem? (i := 37) rfl)
theorem d_law_442 : decode code 442 = .ok (.iload_n 3, 1) := dla_5 (442, .iload_n 3, 1) (List.mem_of_getElem? (i := 38) rfl)
theorem d_law_443 : decode code 443 = .ok (.iconst 2, 1) := dla_5 (443, .iconst 2, 1) (List.mem_of_getElem? (i := 39) rfl)
def dli_6 : List (Nat × Instr × Nat) := [(444, .iadd, 1), (445, .iaload, 1), (446, .invokevirtual 52, 3), (449, .pop, 1), (450, .goto 692, 3), (453, .aload_n 1, 1), (454, .aload_n 0, 1), (455, .iload_n 3, 1), (456, .iconst 1, 1), (457, .iadd, 1), (458, .iaload, 1), (459, .invokevirtual 53, 3), (462, .pop, 1), (463, .aload_n 2, 1), (464, .aload_n 0, 1), (465, .iload_n 3, 1), (466, .iconst 1, 1), (467, .iadd, 1), (468, .iaload, 1), (469, .invokevirtual 56, 3), (472, .pop, 1), (473, .goto 669, 3), (476, .aload_n 1, 1), (477, .aload_n 0, 1), (478, .iload_n 3, 1), (479, .iconst 1, 1), (480, .iadd, 1), (481, .iaload, 1), (482, .invokevirtual 57, 3), (485, .pop, 1), (486, .aload_n 2, 1), (487, .aload_n 0, 1), (488, .iload_n 3, 1), (489, .iconst 1, 1), (490, .iadd, 1), (491, .iaload, 1), (492, .invokevirtual 60, 3), (495, .pop, 1), (496, .goto 646, 3), (499, .aload_n 1, 1)]
set_option maxRecDepth 100000 in
theorem dla_6 : ∀ q ∈ dli_6, decode code q.1 = .ok q.2 := by decide +kernel
theorem d_law_444 : decode code 444 = .ok (.iadd, 1) := dla_6 (444, .iadd, 1) (List.mem_of_getElem? (i := 0) rfl)
theorem d_law_445 : decode code 445 = .ok (.iaload, 1) := dla_6 (445, .iaload, 1) (List.mem_of_getElem? (i := 1) rfl)
theorem d_law_446 : decode code 446 = .ok (.invokevirtual 52, 3) := dla_6 (446, .invokevirtual 52, 3) (List.mem_of_getElem? (i := 2) rfl)
theorem d_law_449 : decode code 449 = .ok (.pop, 1) := dla_6 (449, .pop, 1) (List.mem_of_getElem? (i := 3) rfl)
theorem d_law_450 : decode code 450 = .ok (.goto 692, 3) := dla_6 (450, .goto 692, 3) (List.mem_of_getElem? (i := 4) rfl)
theorem d_law_453 : decode code 453 = .ok (.aload_n 1, 1) := dla_6 (453, .aload_n 1, 1) (List.mem_of_getElem? (i := 5) rfl)
theorem d_law_454 : decode code 454 = .ok (.aload_n 0, 1) := dla_6 (454, .aload_n 0, 1) (List.mem_of_getElem? (i := 6) rfl)
theorem d_law_455 : decode code 455 = .ok (.iload_n 3, 1) := dla_6 (455, .iload_n 3, 1) (List.mem_of_getElem? (i := 7) rfl)
theorem d_law_456 : decode code 456 = .ok (.iconst 1, 1) := dla_6 (456, .iconst 1, 1) (List.mem_of_getElem? (i := 8) rfl)
theorem d_law_457 : decode code 457 = .ok (.iadd, 1) := dla_6 (457, .iadd, 1) (List.mem_of_getElem? (i := 9) rfl)
theorem d_law_458 : decode code 458 = .ok (.iaload, 1) := dla_6 (458, .iaload, 1) (List.mem_of_getElem? (i := 10) rfl)
theorem d_law_459 : decode code 459 = .ok (.invokevirtual 53, 3) := dla_6 (459, .invokevirtual 53, 3) (List.mem_of_getElem? (i := 11) rfl)
theorem d_law_462 : decode code 462 = .ok (.pop, 1) := dla_6 (462, .pop, 1) (List.mem_of_getElem? (i := 12) rfl)
theorem d_law_463 : decode code 463 = .ok (.aload_n 2, 1) := dla_6 (463, .aload_n 2, 1) (List.mem_of_getElem? (i := 13) rfl)
theorem d_law_464 : decode code 464 = .ok (.aload_n 0, 1) := dla_6 (464, .aload_n 0, 1) (List.mem_of_getElem? (i := 14) rfl)
theorem d_law_465 : decode code 465 = .ok (.iload_n 3, 1) := dla_6 (465, .iload_n 3, 1) (List.mem_of_getElem? (i := 15) rfl)
theorem d_law_466 : decode code 466 = .ok (.iconst 1, 1) := dla_6 (466, .iconst 1, 1) (List.mem_of_getElem? (i := 16) rfl)
theorem d_law_467 : decode code 467 = .ok (.iadd, 1) := dla_6 (467, .iadd, 1) (List.mem_of_getElem? (i := 17) rfl)
theorem d_law_468 : decode code 468 = .ok (.iaload, 1) := dla_6 (468, .iaload, 1) (List.mem_of_getElem? (i := 18) rfl)
theorem d_law_469 : decode code 469 = .ok (.invokevirtual 56, 3) := dla_6 (469, .invokevirtual 56, 3) (List.mem_of_getElem? (i := 19) rfl)
theorem d_law_472 : decode code 472 = .ok (.pop, 1) := dla_6 (472, .pop, 1) (List.mem_of_getElem? (i := 20) rfl)
theorem d_law_473 : decode code 473 = .ok (.goto 669, 3) := dla_6 (473, .goto 669, 3) (List.mem_of_getElem? (i := 21) rfl)
theorem d_law_476 : decode code 476 = .ok (.aload_n 1, 1) := dla_6 (476, .aload_n 1, 1) (List.mem_of_getElem? (i := 22) rfl)
theorem d_law_477 : decode code 477 = .ok (.aload_n 0, 1) := dla_6 (477, .aload_n 0, 1) (List.mem_of_getElem? (i := 23) rfl)
theorem d_law_478 : decode code 478 = .ok (.iload_n 3, 1) := dla_6 (478, .iload_n 3, 1) (List.mem_of_getElem? (i := 24) rfl)
theorem d_law_479 : decode code 479 = .ok (.iconst 1, 1) := dla_6 (479, .iconst 1, 1) (List.mem_of_getElem? (i := 25) rfl)
theorem d_law_480 : decode code 480 = .ok (.iadd, 1) := dla_6 (480, .iadd, 1) (List.mem_of_getElem? (i := 26) rfl)
theorem d_law_481 : decode code 481 = .ok (.iaload, 1) := dla_6 (481, .iaload, 1) (List.mem_of_getElem? (i := 27) rfl)
theorem d_law_482 : decode code 482 = .ok (.invokevirtual 57, 3) := dla_6 (482, .invokevirtual 57, 3) (List.mem_of_getElem? (i := 28) rfl)
theorem d_law_485 : decode code 485 = .ok (.pop, 1) := dla_6 (485, .pop, 1) (List.mem_of_getElem? (i := 29) rfl)
theorem d_law_486 : decode code 486 = .ok (.aload_n 2, 1) := dla_6 (486, .aload_n 2, 1) (List.mem_of_getElem? (i := 30) rfl)
theorem d_law_487 : decode code 487 = .ok (.aload_n 0, 1) := dla_6 (487, .aload_n 0, 1) (List.mem_of_getElem? (i := 31) rfl)
theorem d_law_488 : decode code 488 = .ok (.iload_n 3, 1) := dla_6 (488, .iload_n 3, 1) (List.mem_of_getElem? (i := 32) rfl)
theorem d_law_489 : decode code 489 = .ok (.iconst 1, 1) := dla_6 (489, .iconst 1, 1) (List.mem_of_getElem? (i := 33) rfl)
theorem d_law_490 : decode code 490 = .ok (.iadd, 1) := dla_6 (490, .iadd, 1) (List.mem_of_getElem? (i := 34) rfl)
theorem d_law_491 : decode code 491 = .ok (.iaload, 1) := dla_6 (491, .iaload, 1) (List.mem_of_getElem? (i := 35) rfl)
theorem d_law_492 : decode code 492 = .ok (.invokevirtual 60, 3) := dla_6 (492, .invokevirtual 60, 3) (List.mem_of_getElem? (i := 36) rfl)
theorem d_law_495 : decode code 495 = .ok (.pop, 1) := dla_6 (495, .pop, 1) (List.mem_of_getElem? (i := 37) rfl)
theorem d_law_496 : decode code 496 = .ok (.goto 646, 3) := dla_6 (496, .goto 646, 3) (List.mem_of_getElem? (i := 38) rfl)
theorem d_law_499 : decode code 499 = .ok (.aload_n 1, 1) := dla_6 (499, .aload_n 1, 1) (List.mem_of_getElem? (i := 39) rfl)
def dli_7 : List (Nat × Instr × Nat) := [(500, .aload_n 0, 1), (501, .iload_n 3, 1), (502, .iconst 1, 1), (503, .iadd, 1), (504, .iaload, 1), (505, .invokevirtual 61, 3), (508, .pop, 1), (509, .aload_n 2, 1), (510, .aload_n 0, 1), (511, .iload_n 3, 1), (512, .iconst 1, 1), (513, .iadd, 1), (514, .iaload, 1), (515, .invokevirtual 64, 3), (518, .pop, 1), (519, .goto 623, 3), (522, .aload_n 1, 1), (523, .invokevirtual 65, 3), (526, .pop, 1), (527, .aload_n 2, 1), (528, .invokevirtual 69, 3), (531, .pop, 1), (532, .goto 610, 3), (535, .aload_n 1, 1), (536, .aload_n 0, 1), (537, .iload_n 3, 1), (538, .iconst 1, 1), (539, .iadd, 1), (540, .iaload, 1), (541, .aload_n 0, 1), (542, .iload_n 3, 1), (543, .iconst 2, 1), (544, .iadd, 1), (545, .iaload, 1), (546, .aload_n 0, 1), (547, .iload_n 3, 1), (548, .iconst 3, 1), (549, .iadd, 1), (550, .iaload, 1), (551, .aload_n 0, 1)]
set_option maxRecDepth 100000 in
theorem dla_7 : ∀ q ∈ dli_7, decode code q.1 = .ok q.2 := by decide +kernel
theorem d_law_500 : decode code 500 = .ok (.aload_n 0, 1) := dla_7 (500, .aload_n 0, 1) (List.mem_of_getElem? (i := 0) rfl)
theorem d_law_501 : decode code 501 = .ok (.iload_n 3, 1) := dla_7 (501, .iload_n 3, 1) (List.mem_of_getElem? (i := 1) rfl)
theorem d_law_502 : decode code 502 = .ok (.iconst 1, 1) := dla_7 (502, .iconst 1, 1) (List.mem_of_getElem? (i := 2) rfl)
theorem d_law_503 : decode code 503 = .ok (.iadd, 1) := dla_7 (503, .iadd, 1) (List.mem_of_getElem? (i := 3) rfl)
theorem d_law_504 : decode code 504 = .ok (.iaload, 1) := dla_7 (504, .iaload, 1) (List.mem_of_getElem? (i := 4) rfl)
theorem d_law_505 : decode code 505 = .ok (.invokevirtual 61, 3) := dla_7 (505, .invokevirtual 61, 3) (List.mem_of_getElem? (i := 5) rfl)
theorem d_law_508 : decode code 508 = .ok (.pop, 1) := dla_7 (508, .pop, 1) (List.mem_of_getElem? (i := 6) rfl)
theorem d_law_509 : decode code 509 = .ok (.aload_n 2, 1) := dla_7 (509, .aload_n 2, 1) (List.mem_of_getElem? (i := 7) rfl)
theorem d_law_510 : decode code 510 = .ok (.aload_n 0, 1) := dla_7 (510, .aload_n 0, 1) (List.mem_of_getElem? (i := 8) rfl)
theorem d_law_511 : decode code 511 = .ok (.iload_n 3, 1) := dla_7 (511, .iload_n 3, 1) (List.mem_of_getElem? (i := 9) rfl)
theorem d_law_512 : decode code 512 = .ok (.iconst 1, 1) := dla_7 (512, .iconst 1, 1) (List.mem_of_getElem? (i := 10) rfl)
theorem d_law_513 : decode code 513 = .ok (.iadd, 1) := dla_7 (513, .iadd, 1) (List.mem_of_getElem? (i := 11) rfl)
theorem d_law_514 : decode code 514 = .ok (.iaload, 1) := dla_7 (514, .iaload, 1) (List.mem_of_getElem? (i := 12) rfl)
theorem d_law_515 : decode code 515 = .ok (.invokevirtual 64, 3) := dla_7 (515, .invokevirtual 64, 3) (List.mem_of_getElem? (i := 13) rfl)
theorem d_law_518 : decode code 518 = .ok (.pop, 1) := dla_7 (518, .pop, 1) (List.mem_of_getElem? (i := 14) rfl)
theorem d_law_519 : decode code 519 = .ok (.goto 623, 3) := dla_7 (519, .goto 623, 3) (List.mem_of_getElem? (i := 15) rfl)
theorem d_law_522 : decode code 522 = .ok (.aload_n 1, 1) := dla_7 (522, .aload_n 1, 1) (List.mem_of_getElem? (i := 16) rfl)
theorem d_law_523 : decode code 523 = .ok (.invokevirtual 65, 3) := dla_7 (523, .invokevirtual 65, 3) (List.mem_of_getElem? (i := 17) rfl)
theorem d_law_526 : decode code 526 = .ok (.pop, 1) := dla_7 (526, .pop, 1) (List.mem_of_getElem? (i := 18) rfl)
theorem d_law_527 : decode code 527 = .ok (.aload_n 2, 1) := dla_7 (527, .aload_n 2, 1) (List.mem_of_getElem? (i := 19) rfl)
theorem d_law_528 : decode code 528 = .ok (.invokevirtual 69, 3) := dla_7 (528, .invokevirtual 69, 3) (List.mem_of_getElem? (i := 20) rfl)
theorem d_law_531 : decode code 531 = .ok (.pop, 1) := dla_7 (531, .pop, 1) (List.mem_of_getElem? (i := 21) rfl)
theorem d_law_532 : decode code 532 = .ok (.goto 610, 3) := dla_7 (532, .goto 610, 3) (List.mem_of_getElem? (i := 22) rfl)
theorem d_law_535 : decode code 535 = .ok (.aload_n 1, 1) := dla_7 (535, .aload_n 1, 1) (List.mem_of_getElem? (i := 23) rfl)
theorem d_law_536 : decode code 536 = .ok (.aload_n 0, 1) := dla_7 (536, .aload_n 0, 1) (List.mem_of_getElem? (i := 24) rfl)
theorem d_law_537 : decode code 537 = .ok (.iload_n 3, 1) := dla_7 (537, .iload_n 3, 1) (List.mem_of_getElem? (i := 25) rfl)
theorem d_law_538 : decode code 538 = .ok (.iconst 1, 1) := dla_7 (538, .iconst 1, 1) (List.mem_of_getElem? (i := 26) rfl)
theorem d_law_539 : decode code 539 = .ok (.iadd, 1) := dla_7 (539, .iadd, 1) (List.mem_of_getElem? (i := 27) rfl)
theorem d_law_540 : decode code 540 = .ok (.iaload, 1) := dla_7 (540, .iaload, 1) (List.mem_of_getElem? (i := 28) rfl)
theorem d_law_541 : decode code 541 = .ok (.aload_n 0, 1) := dla_7 (541, .aload_n 0, 1) (List.mem_of_getElem? (i := 29) rfl)
theorem d_law_542 : decode code 542 = .ok (.iload_n 3, 1) := dla_7 (542, .iload_n 3, 1) (List.mem_of_getElem? (i := 30) rfl)
theorem d_law_543 : decode code 543 = .ok (.iconst 2, 1) := dla_7 (543, .iconst 2, 1) (List.mem_of_getElem? (i := 31) rfl)
theorem d_law_544 : decode code 544 = .ok (.iadd, 1) := dla_7 (544, .iadd, 1) (List.mem_of_getElem? (i := 32) rfl)
theorem d_law_545 : decode code 545 = .ok (.iaload, 1) := dla_7 (545, .iaload, 1) (List.mem_of_getElem? (i := 33) rfl)
theorem d_law_546 : decode code 546 = .ok (.aload_n 0, 1) := dla_7 (546, .aload_n 0, 1) (List.mem_of_getElem? (i := 34) rfl)
theorem d_law_547 : decode code 547 = .ok (.iload_n 3, 1) := dla_7 (547, .iload_n 3, 1) (List.mem_of_getElem? (i := 35) rfl)
theorem d_law_548 : decode code 548 = .ok (.iconst 3, 1) := dla_7 (548, .iconst 3, 1) (List.mem_of_getElem? (i := 36) rfl)
theorem d_law_549 : decode code 549 = .ok (.iadd, 1) := dla_7 (549, .iadd, 1) (List.mem_of_getElem? (i := 37) rfl)
theorem d_law_550 : decode code 550 = .ok (.iaload, 1) := dla_7 (550, .iaload, 1) (List.mem_of_getElem? (i := 38) rfl)
theorem d_law_551 : decode code 551 = .ok (.aload_n 0, 1) := dla_7 (551, .aload_n 0, 1) (List.mem_of_getElem? (i := 39) rfl)
def dli_8 : List (Nat × Instr × Nat) := [(552, .iload_n 3, 1), (553, .iconst 4, 1), (554, .iadd, 1), (555, .iaload, 1), (556, .invokevirtual 70, 3), (559, .pop, 1), (560, .aload_n 2, 1), (561, .aload_n 0, 1), (562, .iload_n 3, 1), (563, .iconst 1, 1), (564, .iadd, 1), (565, .iaload, 1), (566, .aload_n 0, 1), (567, .iload_n 3, 1), (568, .iconst 2, 1), (569, .iadd, 1), (570, .iaload, 1), (571, .aload_n 0, 1), (572, .iload_n 3, 1), (573, .iconst 3, 1), (574, .iadd, 1), (575, .iaload, 1), (576, .aload_n 0, 1), (577, .iload_n 3, 1), (578, .iconst 4, 1), (579, .iadd, 1), (580, .iaload, 1), (581, .invokevirtual 74, 3), (584, .pop, 1), (585, .goto 557, 3), (588, .aload_n 1, 1), (589, .aload_n 0, 1), (590, .iload_n 3, 1), (591, .iconst 1, 1), (592, .iadd, 1), (593, .iaload, 1), (594, .aload_n 0, 1), (595, .iload_n 3, 1), (596, .iconst 2, 1), (597, .iadd, 1)]
set_option maxRecDepth 100000 in
theorem dla_8 : ∀ q ∈ dli_8, decode code q.1 = .ok q.2 := by decide +kernel
theorem d_law_552 : decode code 552 = .ok (.iload_n 3, 1) := dla_8 (552, .iload_n 3, 1) (List.mem_of_getElem? (i := 0) rfl)
theorem d_law_553 : decode code 553 = .ok (.iconst 4, 1) := dla_8 (553, .iconst 4, 1) (List.mem_of_getElem? (i := 1) rfl)
theorem d_law_554 : decode code 554 = .ok (.iadd, 1) := dla_8 (554, .iadd, 1) (List.mem_of_getElem? (i := 2) rfl)
theorem d_law_555 : decode code 555 = .ok (.iaload, 1) := dla_8 (555, .iaload, 1) (List.mem_of_getElem? (i := 3) rfl)
theorem d_law_556 : decode code 556 = .ok (.invokevirtual 70, 3) := dla_8 (556, .invokevirtual 70, 3) (List.mem_of_getElem? (i := 4) rfl)
theorem d_law_559 : decode code 559 = .ok (.pop, 1) := dla_8 (559, .pop, 1) (List.mem_of_getElem? (i := 5) rfl)
theorem d_law_560 : decode code 560 = .ok (.aload_n 2, 1) := dla_8 (560, .aload_n 2, 1) (List.mem_of_getElem? (i := 6) rfl)
theorem d_law_561 : decode code 561 = .ok (.aload_n 0, 1) := dla_8 (561, .aload_n 0, 1) (List.mem_of_getElem? (i := 7) rfl)
theorem d_law_562 : decode code 562 = .ok (.iload_n 3, 1) := dla_8 (562, .iload_n 3, 1) (List.mem_of_getElem? (i := 8) rfl)
theorem d_law_563 : decode code 563 = .ok (.iconst 1, 1) := dla_8 (563, .iconst 1, 1) (List.mem_of_getElem? (i := 9) rfl)
theorem d_law_564 : decode code 564 = .ok (.iadd, 1) := dla_8 (564, .iadd, 1) (List.mem_of_getElem? (i := 10) rfl)
theorem d_law_565 : decode code 565 = .ok (.iaload, 1) := dla_8 (565, .iaload, 1) (List.mem_of_getElem? (i := 11) rfl)
theorem d_law_566 : decode code 566 = .ok (.aload_n 0, 1) := dla_8 (566, .aload_n 0, 1) (List.mem_of_getElem? (i := 12) rfl)
theorem d_law_567 : decode code 567 = .ok (.iload_n 3, 1) := dla_8 (567, .iload_n 3, 1) (List.mem_of_getElem? (i := 13) rfl)
theorem d_law_568 : decode code 568 = .ok (.iconst 2, 1) := dla_8 (568, .iconst 2, 1) (List.mem_of_getElem? (i := 14) rfl)
theorem d_law_569 : decode code 569 = .ok (.iadd, 1) := dla_8 (569, .iadd, 1) (List.mem_of_getElem? (i := 15) rfl)
theorem d_law_570 : decode code 570 = .ok (.iaload, 1) := dla_8 (570, .iaload, 1) (List.mem_of_getElem? (i := 16) rfl)
theorem d_law_571 : decode code 571 = .ok (.aload_n 0, 1) := dla_8 (571, .aload_n 0, 1) (List.mem_of_getElem? (i := 17) rfl)
theorem d_law_572 : decode code 572 = .ok (.iload_n 3, 1) := dla_8 (572, .iload_n 3, 1) (List.mem_of_getElem? (i := 18) rfl)
theorem d_law_573 : decode code 573 = .ok (.iconst 3, 1) := dla_8 (573, .iconst 3, 1) (List.mem_of_getElem? (i := 19) rfl)
theorem d_law_574 : decode code 574 = .ok (.iadd, 1) := dla_8 (574, .iadd, 1) (List.mem_of_getElem? (i := 20) rfl)
theorem d_law_575 : decode code 575 = .ok (.iaload, 1) := dla_8 (575, .iaload, 1) (List.mem_of_getElem? (i := 21) rfl)
theorem d_law_576 : decode code 576 = .ok (.aload_n 0, 1) := dla_8 (576, .aload_n 0, 1) (List.mem_of_getElem? (i := 22) rfl)
theorem d_law_577 : decode code 577 = .ok (.iload_n 3, 1) := dla_8 (577, .iload_n 3, 1) (List.mem_of_getElem? (i := 23) rfl)
theorem d_law_578 : decode code 578 = .ok (.iconst 4, 1) := dla_8 (578, .iconst 4, 1) (List.mem_of_getElem? (i := 24) rfl)
theorem d_law_579 : decode code 579 = .ok (.iadd, 1) := dla_8 (579, .iadd, 1) (List.mem_of_getElem? (i := 25) rfl)
theorem d_law_580 : decode code 580 = .ok (.iaload, 1) := dla_8 (580, .iaload, 1) (List.mem_of_getElem? (i := 26) rfl)
theorem d_law_581 : decode code 581 = .ok (.invokevirtual 74, 3) := dla_8 (581, .invokevirtual 74, 3) (List.mem_of_getElem? (i := 27) rfl)
theorem d_law_584 : decode code 584 = .ok (.pop, 1) := dla_8 (584, .pop, 1) (List.mem_of_getElem? (i := 28) rfl)
theorem d_law_585 : decode code 585 = .ok (.goto 557, 3) := dla_8 (585, .goto 557, 3) (List.mem_of_getElem? (i := 29) rfl)
theorem d_law_588 : decode code 588 = .ok (.aload_n 1, 1) := dla_8 (588, .aload_n 1, 1) (List.mem_of_getElem? (i := 30) rfl)
theorem d_law_589 : decode code 589 = .ok (.aload_n 0, 1) := dla_8 (589, .aload_n 0, 1) (List.mem_of_getElem? (i := 31) rfl)
theorem d_law_590 : decode code 590 = .ok (.iload_n 3, 1) := dla_8 (590, .iload_n 3, 1) (List.mem_of_getElem? (i := 32) rfl)
theorem d_law_591 : decode code 591 = .ok (.iconst 1, 1) := dla_8 (591, .iconst 1, 1) (List.mem_of_getElem? (i := 33) rfl)
theorem d_law_592 : decode code 592 = .ok (.iadd, 1) := dla_8 (592, .iadd, 1) (List.mem_of_getElem? (i := 34) rfl)
theorem d_law_593 : decode code 593 = .ok (.iaload, 1) := dla_8 (593, .iaload, 1) (List.mem_of_getElem? (i := 35) rfl)
theorem d_law_594 : decode code 594 = .ok (.aload_n 0, 1) := dla_8 (594, .aload_n 0, 1) (List.mem_of_getElem? (i := 36) rfl)
theorem d_law_595 : decode code 595 = .ok (.iload_n 3, 1) := dla_8 (595, .iload_n 3, 1) (List.mem_of_getElem? (i := 37) rfl)
theorem d_law_596 : decode code 596 = .ok (.iconst 2, 1) := dla_8 (596, .iconst 2, 1) (List.mem_of_getElem? (i := 38) rfl)
theorem d_law_597 : decode code 597 = .ok (.iadd, 1) := dla_8 (597, .iadd, 1) (List.mem_of_getElem? (i := 39) rfl)
def dli_9 : List (Nat × Instr × Nat) := [(598, .iaload, 1), (599, .invokevirtual 75, 3), (602, .pop, 1), (603, .aload_n 2, 1), (604, .aload_n 0, 1), (605, .iload_n 3, 1), (606, .iconst 1, 1), (607, .iadd, 1), (608, .iaload, 1), (609, .aload_n 0, 1), (610, .iload_n 3, 1), (611, .iconst 2, 1), (612, .iadd, 1), (613, .iaload, 1), (614, .invokevirtual 78, 3), (617, .pop, 1), (618, .goto 524, 3), (621, .aload_n 1, 1), (622, .aload_n 0, 1), (623, .iload_n 3, 1), (624, .iconst 1, 1), (625, .iadd, 1), (626, .iaload, 1), (627, .aload_n 0, 1), (628, .iload_n 3, 1), (629, .iconst 2, 1), (630, .iadd, 1), (631, .iaload, 1), (632, .invokevirtual 79, 3), (635, .pop, 1), (636, .aload_n 2, 1), (637, .aload_n 0, 1), (638, .iload_n 3, 1), (639, .iconst 1, 1), (640, .iadd, 1), (641, .iaload, 1), (642, .aload_n 0, 1), (643, .iload_n 3, 1), (644, .iconst 2, 1), (645, .iadd, 1)]
set_option maxRecDepth 100000 in
theorem dla_9 : ∀ q ∈ dli_9, decode code q.1 = .ok q.2 := by decide +kernel
theorem d_law_598 : decode code 598 = .ok (.iaload, 1) := dla_9 (598, .iaload, 1) (List.mem_of_getElem? (i := 0) rfl)
theorem d_law_599 : decode code 599 = .ok (.invokevirtual 75, 3) := dla_9 (599, .invokevirtual 75, 3) (List.mem_of_getElem? (i := 1) rfl)
theorem d_law_602 : decode code 602 = .ok (.pop, 1) := dla_9 (602, .pop, 1) (List.mem_of_getElem? (i := 2) rfl)
theorem d_law_603 : decode code 603 = .ok (.aload_n 2, 1) := dla_9 (603, .aload_n 2, 1) (List.mem_of_getElem? (i := 3) rfl)
theorem d_law_604 : decode code 604 = .ok (.aload_n 0, 1) := dla_9 (604, .aload_n 0, 1) (List.mem_of_getElem? (i := 4) rfl)
theorem d_law_605 : decode code 605 = .ok (.iload_n 3, 1) := dla_9 (605, .iload_n 3, 1) (List.mem_of_getElem? (i := 5) rfl)
theorem d_law_606 : decode code 606 = .ok (.iconst 1, 1) := dla_9 (606, .iconst 1, 1) (List.mem_of_getElem? (i := 6) rfl)
theorem d_law_607 : decode code 607 = .ok (.iadd, 1) := dla_9 (607, .iadd, 1) (List.mem_of_getElem? (i := 7) rfl)
theorem d_law_608 : decode code 608 = .ok (.iaload, 1) := dla_9 (608, .iaload, 1) (List.mem_of_getElem? (i := 8) rfl)
theorem d_law_609 : decode code 609 = .ok (.aload_n 0, 1) := dla_9 (609, .aload_n 0, 1) (List.mem_of_getElem? (i := 9) rfl)
theorem d_law_610 : decode code 610 = .ok (.iload_n 3, 1) := dla_9 (610, .iload_n 3, 1) (List.mem_of_getElem? (i := 10) rfl)
theorem d_law_611 : decode code 611 = .ok (.iconst 2, 1) := dla_9 (611, .iconst 2, 1) (List.mem_of_getElem? (i := 11) rfl)
theorem d_law_612 : decode code 612 = .ok (.iadd, 1) := dla_9 (612, .iadd, 1) (List.mem_of_getElem? (i := 12) rfl)
theorem d_law_613 : decode code 613 = .ok (.iaload, 1) := dla_9 (613, .iaload, 1) (List.mem_of_getElem? (i := 13) rfl)
theorem d_law_614 : decode code 614 = .ok (.invokevirtual 78, 3) := dla_9 (614, .invokevirtual 78, 3) (List.mem_of_getElem? (i := 14) rfl)
theorem d_law_617 : decode code 617 = .ok (.pop, 1) := dla_9 (617, .pop, 1) (List.mem_of_getElem? (i := 15) rfl)
theorem d_law_618 : decode code 618 = .ok (.goto 524, 3) := dla_9 (618, .goto 524, 3) (List.mem_of_getElem? (i := 16) rfl)
theorem d_law_621 : decode code 621 = .ok (.aload_n 1, 1) := dla_9 (621, .aload_n 1, 1) (List.mem_of_getElem? (i := 17) rfl)
theorem d_law_622 : decode code 622 = .ok (.aload_n 0, 1) := dla_9 (622, .aload_n 0, 1) (List.mem_of_getElem? (i := 18) rfl)
theorem d_law_623 : decode code 623 = .ok (.iload_n 3, 1) := dla_9 (623, .iload_n 3, 1) (List.mem_of_getElem? (i := 19) rfl)
theorem d_law_624 : decode code 624 = .ok (.iconst 1, 1) := dla_9 (624, .iconst 1, 1) (List.mem_of_getElem? (i := 20) rfl)
theorem d_law_625 : decode code 625 = .ok (.iadd, 1) := dla_9 (625, .iadd, 1) (List.mem_of_getElem? (i := 21) rfl)
theorem d_law_626 : decode code 626 = .ok (.iaload, 1) := dla_9 (626, .iaload, 1) (List.mem_of_getElem? (i := 22) rfl)
theorem d_law_627 : decode code 627 = .ok (.aload_n 0, 1) := dla_9 (627, .aload_n 0, 1) (List.mem_of_getElem? (i := 23) rfl)
theorem d_law_628 : decode code 628 = .ok (.iload_n 3, 1) := dla_9 (628, .iload_n 3, 1) (List.mem_of_getElem? (i := 24) rfl)
theorem d_law_629 : decode code 629 = .ok (.iconst 2, 1) := dla_9 (629, .iconst 2, 1) (List.mem_of_getElem? (i := 25) rfl)
theorem d_law_630 : decode code 630 = .ok (.iadd, 1) := dla_9 (630, .iadd, 1) (List.mem_of_getElem? (i := 26) rfl)
theorem d_law_631 : decode code 631 = .ok (.iaload, 1) := dla_9 (631, .iaload, 1) (List.mem_of_getElem? (i := 27) rfl)
theorem d_law_632 : decode code 632 = .ok (.invokevirtual 79, 3) := dla_9 (632, .invokevirtual 79, 3) (List.mem_of_getElem? (i := 28) rfl)
theorem d_law_635 : decode code 635 = .ok (.pop, 1) := dla_9 (635, .pop, 1) (List.mem_of_getElem? (i := 29) rfl)
theorem d_law_636 : decode code 636 = .ok (.aload_n 2, 1) := dla_9 (636, .aload_n 2, 1) (List.mem_of_getElem? (i := 30) rfl)
theorem d_law_637 : decode code 637 = .ok (.aload_n 0, 1) := dla_9 (637, .aload_n 0, 1) (List.mem_of_getElem? (i := 31) rfl)
theorem d_law_638 : decode code 638 = .ok (.iload_n 3, 1) := dla_9 (638, .iload_n 3, 1) (List.mem_of_getElem? (i := 32) rfl)
theorem d_law_639 : decode code 639 = .ok (.iconst 1, 1) := dla_9 (639, .iconst 1, 1) (List.mem_of_getElem? (i := 33) rfl)
theorem d_law_640 : decode code 640 = .ok (.iadd, 1) := dla_9 (640, .iadd, 1) (List.mem_of_getElem? (i := 34) rfl)
theorem d_law_641 : decode code 641 = .ok (.iaload, 1) := dla_9 (641, .iaload, 1) (List.mem_of_getElem? (i := 35) rfl)
theorem d_law_642 : decode code 642 = .ok (.aload_n 0, 1) := dla_9 (642, .aload_n 0, 1) (List.mem_of_getElem? (i := 36) rfl)
theorem d_law_643 : decode code 643 = .ok (.iload_n 3, 1) := dla_9 (643, .iload_n 3, 1) (List.mem_of_getElem? (i := 37) rfl)
theorem d_law_644 : decode code 644 = .ok (.iconst 2, 1) := dla_9 (644, .iconst 2, 1) (List.mem_of_getElem? (i := 38) rfl)
theorem d_law_645 : decode code 645 = .ok (.iadd, 1) := dla_9 (645, .iadd, 1) (List.mem_of_getElem? (i := 39) rfl)
def dli_10 : List (Nat × Instr × Nat) := [(646, .iaload, 1), (647, .invokevirtual 82, 3), (650, .pop, 1), (651, .goto 491, 3), (654, .aload_n 1, 1), (655, .invokevirtual 83, 3), (658, .pop, 1), (659, .aload_n 2, 1), (660, .invokevirtual 86, 3), (663, .pop, 1), (664, .goto 478, 3), (667, .aload_n 1, 1), (668, .aload_n 0, 1), (669, .iload_n 3, 1), (670, .iconst 1, 1), (671, .iadd, 1), (672, .iaload, 1), (673, .aload_n 0, 1), (674, .iload_n 3, 1), (675, .iconst 2, 1), (676, .iadd, 1), (677, .iaload, 1), (678, .aload_n 0, 1), (679, .iload_n 3, 1), (680, .iconst 3, 1), (681, .iadd, 1), (682, .iaload, 1), (683, .invokevirtual 87, 3), (686, .pop, 1), (687, .aload_n 2, 1), (688, .aload_n 0, 1), (689, .iload_n 3, 1), (690, .iconst 1, 1), (691, .iadd, 1), (692, .iaload, 1), (693, .aload_n 0, 1), (694, .iload_n 3, 1), (695, .iconst 2, 1), (696, .iadd, 1), (697, .iaload, 1)]
set_option maxRecDepth 100000 in
theorem dla_10 : ∀ q ∈ dli_10, decode code q.1 = .ok q.2 := by decide +kernel
theorem d_law_646 : decode code 646 = .ok (.iaload, 1) := dla_10 (646, .iaload, 1) (List.mem_of_getElem? (i := 0) rfl)
theorem d_law_647 : decode code 647 = .ok (.invokevirtual 82, 3) := dla_10 (647, .invokevirtual 82, 3) (List.mem_of_getElem? (i := 1) rfl)
theorem d_law_650 : decode code 650 = .ok (.pop, 1) := dla_10 (650, .pop, 1) (List.mem_of_getElem? (i := 2) rfl)
theorem d_law_651 : decode code 651 = .ok (.goto 491, 3) := dla_10 (651, .goto 491, 3) (List.mem_of_getElem? (i := 3) rfl)
theorem d_law_654 : decode code 654 = .ok (.aload_n 1, 1) := dla_10 (654, .aload_n 1, 1) (List.mem_of_getElem? (i := 4) rfl)
theorem d_law_655 : decode code 655 = .ok (.invokevirtual 83, 3) := dla_10 (655, .invokevirtual 83, 3) (List.mem_of_getElem? (i := 5) rfl)
theorem d_law_658 : decode code 658 = .ok (.pop, 1) := dla_10 (658, .pop, 1) (List.mem_of_getElem? (i := 6) rfl)
theorem d_law_659 : decode code 659 = .ok (.aload_n 2, 1) := dla_10 (659, .aload_n 2, 1) (List.mem_of_getElem? (i := 7) rfl)
theorem d_law_660 : decode code 660 = .ok (.invokevirtual 86, 3) := dla_10 (660, .invokevirtual 86, 3) (List.mem_of_getElem? (i := 8) rfl)
theorem d_law_663 : decode code 663 = .ok (.pop, 1) := dla_10 (663, .pop, 1) (List.mem_of_getElem? (i := 9) rfl)
theorem d_law_664 : decode code 664 = .ok (.goto 478, 3) := dla_10 (664, .goto 478, 3) (List.mem_of_getElem? (i := 10) rfl)
theorem d_law_667 : decode code 667 = .ok (.aload_n 1, 1) := dla_10 (667, .aload_n 1, 1) (List.mem_of_getElem? (i := 11) rfl)
theorem d_law_668 : decode code 668 = .ok (.aload_n 0, 1) := dla_10 (668, .aload_n 0, 1) (List.mem_of_getElem? (i := 12) rfl)
theorem d_law_669 : decode code 669 = .ok (.iload_n 3, 1) := dla_10 (669, .iload_n 3, 1) (List.mem_of_getElem? (i := 13) rfl)
theorem d_law_670 : decode code 670 = .ok (.iconst 1, 1) := dla_10 (670, .iconst 1, 1) (List.mem_of_getElem? (i := 14) rfl)
theorem d_law_671 : decode code 671 = .ok (.iadd, 1) := dla_10 (671, .iadd, 1) (List.mem_of_getElem? (i := 15) rfl)
theorem d_law_672 : decode code 672 = .ok (.iaload, 1) := dla_10 (672, .iaload, 1) (List.mem_of_getElem? (i := 16) rfl)
theorem d_law_673 : decode code 673 = .ok (.aload_n 0, 1) := dla_10 (673, .aload_n 0, 1) (List.mem_of_getElem? (i := 17) rfl)
theorem d_law_674 : decode code 674 = .ok (.iload_n 3, 1) := dla_10 (674, .iload_n 3, 1) (List.mem_of_getElem? (i := 18) rfl)
theorem d_law_675 : decode code 675 = .ok (.iconst 2, 1) := dla_10 (675, .iconst 2, 1) (List.mem_of_getElem? (i := 19) rfl)
theorem d_law_676 : decode code 676 = .ok (.iadd, 1) := dla_10 (676, .iadd, 1) (List.mem_of_getElem? (i := 20) rfl)
theorem d_law_677 : decode code 677 = .ok (.iaload, 1) := dla_10 (677, .iaload, 1) (List.mem_of_getElem? (i := 21) rfl)
theorem d_law_678 : decode code 678 = .ok (.aload_n 0, 1) := dla_10 (678, .aload_n 0, 1) (List.mem_of_getElem? (i := 22) rfl)
theorem d_law_679 : decode code 679 = .ok (.iload_n 3, 1) := dla_10 (679, .iload_n 3, 1) (List.mem_of_getElem? (i := 23) rfl)
theorem d_law_680 : decode code 680 = .ok (.iconst 3, 1) := dla_10 (680, .iconst 3, 1) (List.mem_of_getElem? (i := 24) rfl)
theorem d_law_681 : decode code 681 = .ok (.iadd, 1) := dla_10 (681, .iadd, 1) (List.mem_of_getElem? (i := 25) rfl)
theorem d_law_682 : decode code 682 = .ok (.iaload, 1) := dla_10 (682, .iaload, 1) (List.mem_of_getElem? (i := 26) rfl)
theorem d_law_683 : decode code 683 = .ok (.invokevirtual 87, 3) := dla_10 (683, .invokevirtual 87, 3) (List.mem_of_getElem? (i := 27) rfl)
theorem d_law_686 : decode code 686 = .ok (.pop, 1) := dla_10 (686, .pop, 1) (List.mem_of_getElem? (i := 28) rfl)
theorem d_law_687 : decode code 687 = .ok (.aload_n 2, 1) := dla_10 (687, .aload_n 2, 1) (List.mem_of_getElem? (i := 29) rfl)
theorem d_law_688 : decode code 688 = .ok (.aload_n 0, 1) := dla_10 (688, .aload_n 0, 1) (List.mem_of_getElem? (i := 30) rfl)
theorem d_law_689 : decode code 689 = .ok (.iload_n 3, 1) := dla_10 (689, .iload_n 3, 1) (List.mem_of_getElem? (i := 31) rfl)
theorem d_law_690 : decode code 690 = .ok (.iconst 1, 1) := dla_10 (690, .iconst 1, 1) (List.mem_of_getElem? (i := 32) rfl)
theorem d_law_691 : decode code 691 = .ok (.iadd, 1) := dla_10 (691, .iadd, 1) (List.mem_of_getElem? (i := 33) rfl)
theorem d_law_692 : decode code 692 = .ok (.iaload, 1) := dla_10 (692, .iaload, 1) (List.mem_of_getElem? (i := 34) rfl)
theorem d_law_693 : decode code 693 = .ok (.aload_n 0, 1) := dla_10 (693, .aload_n 0, 1) (List.mem_of_getElem? (i := 35) rfl)
theorem d_law_694 : decode code 694 = .ok (.iload_n 3, 1) := dla_10 (694, .iload_n 3, 1) (List.mem_of_getElem? (i := 36) rfl)
theorem d_law_695 : decode code 695 = .ok (.iconst 2, 1) := dla_10 (695, .iconst 2, 1) (List.mem_of_getElem? (i := 37) rfl)
theorem d_law_696 : decode code 696 = .ok (.iadd, 1) := dla_10 (696, .iadd, 1) (List.mem_of_getElem? (i := 38) rfl)
theorem d_law_697 : decode code 697 = .ok (.iaload, 1) := dla_10 (697, .iaload, 1) (List.mem_of_getElem? (i := 39) rfl)
def dli_11 : List (Nat × Instr × Nat) := [(698, .aload_n 0, 1), (699, .iload_n 3, 1), (700, .iconst 3, 1), (701, .iadd, 1), (702, .iaload, 1), (703, .invokevirtual 91, 3), (706, .pop, 1), (707, .goto 435, 3), (710, .aload_n 1, 1), (711, .aload_n 0, 1), (712, .iload_n 3, 1), (713, .iconst 1, 1), (714, .iadd, 1), (715, .iaload, 1), (716, .aload_n 0, 1), (717, .iload_n 3, 1), (718, .iconst 2, 1), (719, .iadd, 1), (720, .iaload, 1), (721, .aload_n 0, 1), (722, .iload_n 3, 1), (723, .iconst 3, 1), (724, .iadd, 1), (725, .iaload, 1), (726, .aload_n 0, 1), (727, .iload_n 3, 1), (728, .iconst 4, 1), (729, .iadd, 1), (730, .iaload, 1), (731, .invokevirtual 92, 3), (734, .pop, 1), (735, .aload_n 2, 1), (736, .aload_n 0, 1), (737, .iload_n 3, 1), (738, .iconst 1, 1), (739, .iadd, 1), (740, .iaload, 1), (741, .aload_n 0, 1), (742, .iload_n 3, 1), (743, .iconst 2, 1)]
set_option maxRecDepth 100000 in
theorem dla_11 : ∀ q ∈ dli_11, decode code q.1 = .ok q.2 := by decide +kernel
theorem d_law_698 : decode code 698 = .ok (.aload_n 0, 1) := dla_11 (698, .aload_n 0, 1) (List.mem_of_getElem? (i := 0) rfl)
theorem d_law_699 : decode code 699 = .ok (.iload_n 3, 1) := dla_11 (699, .iload_n 3, 1) (List.mem_of_getElem? (i := 1) rfl)
theorem d_law_700 : decode code 700 = .ok (.iconst 3, 1) := dla_11 (700, .iconst 3, 1) (List.mem_of_getElem? (i := 2) rfl)
theorem d_law_701 : decode code 701 = .ok (.iadd, 1) := dla_11 (701, .iadd, 1) (List.mem_of_getElem? (i := 3) rfl)
theorem d_law_702 : decode code 702 = .ok (.iaload, 1) := dla_11 (702, .iaload, 1) (List.mem_of_getElem? (i := 4) rfl)
theorem d_law_703 : decode code 703 = .ok (.invokevirtual 91, 3) := dla_11 (703, .invokevirtual 91, 3) (List.mem_of_getElem? (i := 5) rfl)
theorem d_law_706 : decode code 706 = .ok (.pop, 1) := dla_11 (706, .pop, 1) (List.mem_of_getElem? (i := 6) rfl)
theorem d_law_707 : decode code 707 = .ok (.goto 435, 3) := dla_11 (707, .goto 435, 3) (List.mem_of_getElem? (i := 7) rfl)
theorem d_law_710 : decode code 710 = .ok (.aload_n 1, 1) := dla_11 (710, .aload_n 1, 1) (List.mem_of_getElem? (i := 8) rfl)
theorem d_law_711 : decode code 711 = .ok (.aload_n 0, 1) := dla_11 (711, .aload_n 0, 1) (List.mem_of_getElem? (i := 9) rfl)
theorem d_law_712 : decode code 712 = .ok (.iload_n 3, 1) := dla_11 (712, .iload_n 3, 1) (List.mem_of_getElem? (i := 10) rfl)
theorem d_law_713 : decode code 713 = .ok (.iconst 1, 1) := dla_11 (713, .iconst 1, 1) (List.mem_of_getElem? (i := 11) rfl)
theorem d_law_714 : decode code 714 = .ok (.iadd, 1) := dla_11 (714, .iadd, 1) (List.mem_of_getElem? (i := 12) rfl)
theorem d_law_715 : decode code 715 = .ok (.iaload, 1) := dla_11 (715, .iaload, 1) (List.mem_of_getElem? (i := 13) rfl)
theorem d_law_716 : decode code 716 = .ok (.aload_n 0, 1) := dla_11 (716, .aload_n 0, 1) (List.mem_of_getElem? (i := 14) rfl)
theorem d_law_717 : decode code 717 = .ok (.iload_n 3, 1) := dla_11 (717, .iload_n 3, 1) (List.mem_of_getElem? (i := 15) rfl)
theorem d_law_718 : decode code 718 = .ok (.iconst 2, 1) := dla_11 (718, .iconst 2, 1) (List.mem_of_getElem? (i := 16) rfl)
theorem d_law_719 : decode code 719 = .ok (.iadd, 1) := dla_11 (719, .iadd, 1) (List.mem_of_getElem? (i := 17) rfl)
theorem d_law_720 : decode code 720 = .ok (.iaload, 1) := dla_11 (720, .iaload, 1) (List.mem_of_getElem? (i := 18) rfl)
theorem d_law_721 : decode code 721 = .ok (.aload_n 0, 1) := dla_11 (721, .aload_n 0, 1) (List.mem_of_getElem? (i := 19) rfl)
theorem d_law_722 : decode code 722 = .ok (.iload_n 3, 1) := dla_11 (722, .iload_n 3, 1) (List.mem_of_getElem? (i := 20) rfl)
theorem d_law_723 : decode code 723 = .ok (.iconst 3, 1) := dla_11 (723, .iconst 3, 1) (List.mem_of_getElem? (i := 21) rfl)
theorem d_law_724 : decode code 724 = .ok (.iadd, 1) := dla_11 (724, .iadd, 1) (List.mem_of_getElem? (i := 22) rfl)
theorem d_law_725 : decode code 725 = .ok (.iaload, 1) := dla_11 (725, .iaload, 1) (List.mem_of_getElem? (i := 23) rfl)
theorem d_law_726 : decode code 726 = .ok (.aload_n 0, 1) := dla_11 (726, .aload_n 0, 1) (List.mem_of_getElem? (i := 24) rfl)
theorem d_law_727 : decode code 727 = .ok (.iload_n 3, 1) := dla_11 (727, .iload_n 3, 1) (List.mem_of_getElem? (i := 25) rfl)
theorem d_law_728 : decode code 728 = .ok (.iconst 4, 1) := dla_11 (728, .iconst 4, 1) (List.mem_of_getElem? (i := 26) rfl)
theorem d_law_729 : decode code 729 = .ok (.iadd, 1) := dla_11 (729, .iadd, 1) (List.mem_of_getElem? (i := 27) rfl)
theorem d_law_730 : decode code 730 = .ok (.iaload, 1) := dla_11 (730, .iaload, 1) (List.mem_of_getElem? (i := 28) rfl)
theorem d_law_731 : decode code 731 = .ok (.invokevirtual 92, 3) := dla_11 (731, .invokevirtual 92, 3) (List.mem_of_getElem? (i := 29) rfl)
theorem d_law_734 : decode code 734 = .ok (.pop, 1) := dla_11 (734, .pop, 1) (List.mem_of_getElem? (i := 30) rfl)
theorem d_law_735 : decode code 735 = .ok (.aload_n 2, 1) := dla_11 (735, .aload_n 2, 1) (List.mem_of_getElem? (i := 31) rfl)
theorem d_law_736 : decode code 736 = .ok (.aload_n 0, 1) := dla_11 (736, .aload_n 0, 1) (List.mem_of_getElem? (i := 32) rfl)
theorem d_law_737 : decode code 737 = .ok (.iload_n 3, 1) := dla_11 (737, .iload_n 3, 1) (List.mem_of_getElem? (i := 33) rfl)
theorem d_law_738 : decode code 738 = .ok (.iconst 1, 1) := dla_11 (738, .iconst 1, 1) (List.mem_of_getElem? (i := 34) rfl)
theorem d_law_739 : decode code 739 = .ok (.iadd, 1) := dla_11 (739, .iadd, 1) (List.mem_of_getElem? (i := 35) rfl)
theorem d_law_740 : decode code 740 = .ok (.iaload, 1) := dla_11 (740, .iaload, 1) (List.mem_of_getElem? (i := 36) rfl)
theorem d_law_741 : decode code 741 = .ok (.aload_n 0, 1) := dla_11 (741, .aload_n 0, 1) (List.mem_of_getElem? (i := 37) rfl)
theorem d_law_742 : decode code 742 = .ok (.iload_n 3, 1) := dla_11 (742, .iload_n 3, 1) (List.mem_of_getElem? (i := 38) rfl)
theorem d_law_743 : decode code 743 = .ok (.iconst 2, 1) := dla_11 (743, .iconst 2, 1) (List.mem_of_getElem? (i := 39) rfl)
def dli_12 : List (Nat × Instr × Nat) := [(744, .iadd, 1), (745, .iaload, 1), (746, .aload_n 0, 1), (747, .iload_n 3, 1), (748, .iconst 3, 1), (749, .iadd, 1), (750, .iaload, 1), (751, .aload_n 0, 1), (752, .iload_n 3, 1), (753, .iconst 4, 1), (754, .iadd, 1), (755, .iaload, 1), (756, .invokevirtual 95, 3), (759, .pop, 1), (760, .goto 382, 3), (763, .aload_n 1, 1), (764, .aload_n 0, 1), (765, .iload_n 3, 1), (766, .iconst 1, 1), (767, .iadd, 1), (768, .iaload, 1), (769, .invokevirtual 96, 3), (772, .pop, 1), (773, .aload_n 2, 1), (774, .aload_n 0, 1), (775, .iload_n 3, 1), (776, .iconst 1, 1), (777, .iadd, 1), (778, .iaload, 1), (779, .invokevirtual 99, 3), (782, .pop, 1), (783, .goto 359, 3), (786, .aload_n 1, 1), (787, .aload_n 0, 1), (788, .iload_n 3, 1), (789, .iconst 1, 1), (790, .iadd, 1), (791, .iaload, 1), (792, .aload_n 0, 1), (793, .iload_n 3, 1)]
set_option maxRecDepth 100000 in
theorem dla_12 : ∀ q ∈ dli_12, decode code q.1 = .ok q.2 := by decide +kernel
theorem d_law_744 : decode code 744 = .ok (.iadd, 1) := dla_12 (744, .iadd, 1) (List.mem_of_getElem? (i := 0) rfl)
theorem d_law_745 : decode code 745 = .ok (.iaload, 1) := dla_12 (745, .iaload, 1) (List.mem_of_getElem? (i := 1) rfl)
theorem d_law_746 : decode code 746 = .ok (.aload_n 0, 1) := dla_12 (746, .aload_n 0, 1) (List.mem_of_getElem? (i := 2) rfl)
theorem d_law_747 : decode code 747 = .ok (.iload_n 3, 1) := dla_12 (747, .iload_n 3, 1) (List.mem_of_getElem? (i := 3) rfl)
theorem d_law_748 : decode code 748 = .ok (.iconst 3, 1) := dla_12 (748, .iconst 3, 1) (List.mem_of_getElem? (i := 4) rfl)
theorem d_law_749 : decode code 749 = .ok (.iadd, 1) := dla_12 (749, .iadd, 1) (List.mem_of_getElem? (i := 5) rfl)
theorem d_law_750 : decode code 750 = .ok (.iaload, 1) := dla_12 (750, .iaload, 1) (List.mem_of_getElem? (i := 6) rfl)
theorem d_law_751 : decode code 751 = .ok (.aload_n 0, 1) := dla_12 (751, .aload_n 0, 1) (List.mem_of_getElem? (i := 7) rfl)
theorem d_law_752 : decode code 752 = .ok (.iload_n 3, 1) := dla_12 (752, .iload_n 3, 1) (List.mem_of_getElem? (i := 8) rfl)
theorem d_law_753 : decode code 753 = .ok (.iconst 4, 1) := dla_12 (753, .iconst 4, 1) (List.mem_of_getElem? (i := 9) rfl)
theorem d_law_754 : decode code 754 = .ok (.iadd, 1) := dla_12 (754, .iadd, 1) (List.mem_of_getElem? (i := 10) rfl)
theorem d_law_755 : decode code 755 = .ok (.iaload, 1) := dla_12 (755, .iaload, 1) (List.mem_of_getElem? (i := 11) rfl)
theorem d_law_756 : decode code 756 = .ok (.invokevirtual 95, 3) := dla_12 (756, .invokevirtual 95, 3) (List.mem_of_getElem? (i := 12) rfl)
theorem d_law_759 : decode code 759 = .ok (.pop, 1) := dla_12 (759, .pop, 1) (List.mem_of_getElem? (i := 13) rfl)
theorem d_law_760 : decode code 760 = .ok (.goto 382, 3) := dla_12 (760, .goto 382, 3) (List.mem_of_getElem? (i := 14) rfl)
theorem d_law_763 : decode code 763 = .ok (.aload_n 1, 1) := dla_12 (763, .aload_n 1, 1) (List.mem_of_getElem? (i := 15) rfl)
theorem d_law_764 : decode code 764 = .ok (.aload_n 0, 1) := dla_12 (764, .aload_n 0, 1) (List.mem_of_getElem? (i := 16) rfl)
theorem d_law_765 : decode code 765 = .ok (.iload_n 3, 1) := dla_12 (765, .iload_n 3, 1) (List.mem_of_getElem? (i := 17) rfl)
theorem d_law_766 : decode code 766 = .ok (.iconst 1, 1) := dla_12 (766, .iconst 1, 1) (List.mem_of_getElem? (i := 18) rfl)
theorem d_law_767 : decode code 767 = .ok (.iadd, 1) := dla_12 (767, .iadd, 1) (List.mem_of_getElem? (i := 19) rfl)
theorem d_law_768 : decode code 768 = .ok (.iaload, 1) := dla_12 (768, .iaload, 1) (List.mem_of_getElem? (i := 20) rfl)
theorem d_law_769 : decode code 769 = .ok (.invokevirtual 96, 3) := dla_12 (769, .invokevirtual 96, 3) (List.mem_of_getElem? (i := 21) rfl)
theorem d_law_772 : decode code 772 = .ok (.pop, 1) := dla_12 (772, .pop, 1) (List.mem_of_getElem? (i := 22) rfl)
theorem d_law_773 : decode code 773 = .ok (.aload_n 2, 1) := dla_12 (773, .aload_n 2, 1) (List.mem_of_getElem? (i := 23) rfl)
theorem d_law_774 : decode code 774 = .ok (.aload_n 0, 1) := dla_12 (774, .aload_n 0, 1) (List.mem_of_getElem? (i := 24) rfl)
theorem d_law_775 : decode code 775 = .ok (.iload_n 3, 1) := dla_12 (775, .iload_n 3, 1) (List.mem_of_getElem? (i := 25) rfl)
theorem d_law_776 : decode code 776 = .ok (.iconst 1, 1) := dla_12 (776, .iconst 1, 1) (List.mem_of_getElem? (i := 26) rfl)
theorem d_law_777 : decode code 777 = .ok (.iadd, 1) := dla_12 (777, .iadd, 1) (List.mem_of_getElem? (i := 27) rfl)
theorem d_law_778 : decode code 778 = .ok (.iaload, 1) := dla_12 (778, .iaload, 1) (List.mem_of_getElem? (i := 28) rfl)
theorem d_law_779 : decode code 779 = .ok (.invokevirtual 99, 3) := dla_12 (779, .invokevirtual 99, 3) (List.mem_of_getElem? (i := 29) rfl)
theorem d_law_782 : decode code 782 = .ok (.pop, 1) := dla_12 (782, .pop, 1) (List.mem_of_getElem? (i := 30) rfl)
theorem d_law_783 : decode code 783 = .ok (.goto 359, 3) := dla_12 (783, .goto 359, 3) (List.mem_of_getElem? (i := 31) rfl)
theorem d_law_786 : decode code 786 = .ok (.aload_n 1, 1) := dla_12 (786, .aload_n 1, 1) (List.mem_of_getElem? (i := 32) rfl)
theorem d_law_787 : decode code 787 = .ok (.aload_n 0, 1) := dla_12 (787, .aload_n 0, 1) (List.mem_of_getElem? (i := 33) rfl)
theorem d_law_788 : decode code 788 = .ok (.iload_n 3, 1) := dla_12 (788, .iload_n 3, 1) (List.mem_of_getElem? (i := 34) rfl)
theorem d_law_789 : decode code 789 = .ok (.iconst 1, 1) := dla_12 (789, .iconst 1, 1) (List.mem_of_getElem? (i := 35) rfl)
theorem d_law_790 : decode code 790 = .ok (.iadd, 1) := dla_12 (790, .iadd, 1) (List.mem_of_getElem? (i := 36) rfl)
theorem d_law_791 : decode code 791 = .ok (.iaload, 1) := dla_12 (791, .iaload, 1) (List.mem_of_getElem? (i := 37) rfl)
theorem d_law_792 : decode code 792 = .ok (.aload_n 0, 1) := dla_12 (792, .aload_n 0, 1) (List.mem_of_getElem? (i := 38) rfl)
theorem d_law_793 : decode code 793 = .ok (.iload_n 3, 1) := dla_12 (793, .iload_n 3, 1) (List.mem_of_getElem? (i := 39) rfl)
def dli_13 : List (Nat × Instr × Nat) := [(794, .iconst 2, 1), (795, .iadd, 1), (796, .iaload, 1), (797, .invokevirtual 100, 3), (800, .pop, 1), (801, .aload_n 2, 1), (802, .aload_n 0, 1), (803, .iload_n 3, 1), (804, .iconst 1, 1), (805, .iadd, 1), (806, .iaload, 1), (807, .aload_n 0, 1), (808, .iload_n 3, 1), (809, .iconst 2, 1), (810, .iadd, 1), (811, .iaload, 1), (812, .invokevirtual 103, 3), (815, .pop, 1), (816, .goto 326, 3), (819, .aload_n 1, 1), (820, .aload_n 0, 1), (821, .iload_n 3, 1), (822, .iconst 1, 1), (823, .iadd, 1), (824, .iaload, 1), (825, .aload_n 0, 1), (826, .iload_n 3, 1), (827, .iconst 2, 1), (828, .iadd, 1), (829, .iaload, 1), (830, .invokevirtual 104, 3), (833, .pop, 1), (834, .aload_n 2, 1), (835, .aload_n 0, 1), (836, .iload_n 3, 1), (837, .iconst 1, 1), (838, .iadd, 1), (839, .iaload, 1), (840, .aload_n 0, 1), (841, .iload_n 3, 1)]
set_option maxRecDepth 100000 in
theorem dla_13 : ∀ q ∈ dli_13, decode code q.1 = .ok q.2 := by decide +kernel
theorem d_law_794 : decode code 794 = .ok (.iconst 2, 1) := dla_13 (794, .iconst 2, 1) (List.mem_of_getElem? (i := 0) rfl)
theorem d_law_795 : decode code 795 = .ok (.iadd, 1) := dla_13 (795, .iadd, 1) (List.mem_of_getElem? (i := 1) rfl)
theorem d_law_796 : decode code 796 = .ok (.iaload, 1) := dla_13 (796, .iaload, 1) (List.mem_of_getElem? (i := 2) rfl)
theorem d_law_797 : decode code 797 = .ok (.invokevirtual 100, 3) := dla_13 (797, .invokevirtual 100, 3) (List.mem_of_getElem? (i := 3) rfl)
theorem d_law_800 : decode code 800 = .ok (.pop, 1) := dla_13 (800, .pop, 1) (List.mem_of_getElem? (i := 4) rfl)
theorem d_law_801 : decode code 801 = .ok (.aload_n 2, 1) := dla_13 (801, .aload_n 2, 1) (List.mem_of_getElem? (i := 5) rfl)
theorem d_law_802 : decode code 802 = .ok (.aload_n 0, 1) := dla_13 (802, .aload_n 0, 1) (List.mem_of_getElem? (i := 6) rfl)
theorem d_law_803 : decode code 803 = .ok (.iload_n 3, 1) := dla_13 (803, .iload_n 3, 1) (List.mem_of_getElem? (i := 7) rfl)
theorem d_law_804 : decode code 804 = .ok (.iconst 1, 1) := dla_13 (804, .iconst 1, 1) (List.mem_of_getElem? (i := 8) rfl)
theorem d_law_805 : decode code 805 = .ok (.iadd, 1) := dla_13 (805, .iadd, 1) (List.mem_of_getElem? (i := 9) rfl)
theorem d_law_806 : decode code 806 = .ok (.iaload, 1) := dla_13 (806, .iaload, 1) (List.mem_of_getElem? (i := 10) rfl)
theorem d_law_807 : decode code 807 = .ok (.aload_n 0, 1) := dla_13 (807, .aload_n 0, 1) (List.mem_of_getElem? (i := 11) rfl)
theorem d_law_808 : decode code 808 = .ok (.iload_n 3, 1) := dla_13 (808, .iload_n 3, 1) (List.mem_of_getElem? (i := 12) rfl)
theorem d_law_809 : decode code 809 = .ok (.iconst 2, 1) := dla_13 (809, .iconst 2, 1) (List.mem_of_getElem? (i := 13) rfl)
theorem d_law_810 : decode code 810 = .ok (.iadd, 1) := dla_13 (810, .iadd, 1) (List.mem_of_getElem? (i := 14) rfl)
theorem d_law_811 : decode code 811 = .ok (.iaload, 1) := dla_13 (811, .iaload, 1) (List.mem_of_getElem? (i := 15) rfl)
theorem d_law_812 : decode code 812 = .ok (.invokevirtual 103, 3) := dla_13 (812, .invokevirtual 103, 3) (List.mem_of_getElem? (i := 16) rfl)
theorem d_law_815 : decode code 815 = .ok (.pop, 1) := dla_13 (815, .pop, 1) (List.mem_of_getElem? (i := 17) rfl)
theorem d_law_816 : decode code 816 = .ok (.goto 326, 3) := dla_13 (816, .goto 326, 3) (List.mem_of_getElem? (i := 18) rfl)
theorem d_law_819 : decode code 819 = .ok (.aload_n 1, 1) := dla_13 (819, .aload_n 1, 1) (List.mem_of_getElem? (i := 19) rfl)
theorem d_law_820 : decode code 820 = .ok (.aload_n 0, 1) := dla_13 (820, .aload_n 0, 1) (List.mem_of_getElem? (i := 20) rfl)
theorem d_law_821 : decode code 821 = .ok (.iload_n 3, 1) := dla_13 (821, .iload_n 3, 1) (List.mem_of_getElem? (i := 21) rfl)
theorem d_law_822 : decode code 822 = .ok (.iconst 1, 1) := dla_13 (822, .iconst 1, 1) (List.mem_of_getElem? (i := 22) rfl)
theorem d_law_823 : decode code 823 = .ok (.iadd, 1) := dla_13 (823, .iadd, 1) (List.mem_of_getElem? (i := 23) rfl)
theorem d_law_824 : decode code 824 = .ok (.iaload, 1) := dla_13 (824, .iaload, 1) (List.mem_of_getElem? (i := 24) rfl)
theorem d_law_825 : decode code 825 = .ok (.aload_n 0, 1) := dla_13 (825, .aload_n 0, 1) (List.mem_of_getElem? (i := 25) rfl)
theorem d_law_826 : decode code 826 = .ok (.iload_n 3, 1) := dla_13 (826, .iload_n 3, 1) (List.mem_of_getElem? (i := 26) rfl)
theorem d_law_827 : decode code 827 = .ok (.iconst 2, 1) := dla_13 (827, .iconst 2, 1) (List.mem_of_getElem? (i := 27) rfl)
theorem d_law_828 : decode code 828 = .ok (.iadd, 1) := dla_13 (828, .iadd, 1) (List.mem_of_getElem? (i := 28) rfl)
theorem d_law_829 : decode code 829 = .ok (.iaload, 1) := dla_13 (829, .iaload, 1) (List.mem_of_getElem? (i := 29) rfl)
theorem d_law_830 : decode code 830 = .ok (.invokevirtual 104, 3) := dla_13 (830, .invokevirtual 104, 3) (List.mem_of_getElem? (i := 30) rfl)
theorem d_law_833 : decode code 833 = .ok (.pop, 1) := dla_13 (833, .pop, 1) (List.mem_of_getElem? (i := 31) rfl)
theorem d_law_834 : decode code 834 = .ok (.aload_n 2, 1) := dla_13 (834, .aload_n 2, 1) (List.mem_of_getElem? (i := 32) rfl)
theorem d_law_835 : decode code 835 = .ok (.aload_n 0, 1) := dla_13 (835, .aload_n 0, 1) (List.mem_of_getElem? (i := 33) rfl)
theorem d_law_836 : decode code 836 = .ok (.iload_n 3, 1) := dla_13 (836, .iload_n 3, 1) (List.mem_of_getElem? (i := 34) rfl)
theorem d_law_837 : decode code 837 = .ok (.iconst 1, 1) := dla_13 (837, .iconst 1, 1) (List.mem_of_getElem? (i := 35) rfl)
theorem d_law_838 : decode code 838 = .ok (.iadd, 1) := dla_13 (838, .iadd, 1) (List.mem_of_getElem? (i := 36) rfl)
theorem d_law_839 : decode code 839 = .ok (.iaload, 1) := dla_13 (839, .iaload, 1) (List.mem_of_getElem? (i := 37) rfl)
theorem d_law_840 : decode code 840 = .ok (.aload_n 0, 1) := dla_13 (840, .aload_n 0, 1) (List.mem_of_getElem? (i := 38) rfl)
theorem d_law_841 : decode code 841 = .ok (.iload_n 3, 1) := dla_13 (841, .iload_n 3, 1) (List.mem_of_getElem? (i := 39) rfl)
def dli_14 : List (Nat × Instr × Nat) := [(842, .iconst 2, 1), (843, .iadd, 1), (844, .iaload, 1), (845, .invokevirtual 107, 3), (848, .pop, 1), (849, .goto 293, 3), (852, .aload_n 1, 1), (853, .aload_n 0, 1), (854, .iload_n 3, 1), (855, .iconst 1, 1), (856, .iadd, 1), (857, .iaload, 1), (858, .aload_n 0, 1), (859, .iload_n 3, 1), (860, .iconst 2, 1), (861, .iadd, 1), (862, .iaload, 1), (863, .aload_n 0, 1), (864, .iload_n 3, 1), (865, .iconst 3, 1), (866, .iadd, 1), (867, .iaload, 1), (868, .invokevirtual 108, 3), (871, .pop, 1), (872, .aload_n 2, 1), (873, .aload_n 0, 1), (874, .iload_n 3, 1), (875, .iconst 1, 1), (876, .iadd, 1), (877, .iaload, 1), (878, .aload_n 0, 1), (879, .iload_n 3, 1), (880, .iconst 2, 1), (881, .iadd, 1), (882, .iaload, 1), (883, .aload_n 0, 1), (884, .iload_n 3, 1), (885, .iconst 3, 1), (886, .iadd, 1), (887, .iaload, 1)]
set_option maxRecDepth 100000 in
theorem dla_14 : ∀ q ∈ dli_14, decode code q.1 = .ok q.2 := by decide +kernel
theorem d_law_842 : decode code 842 = .ok (.iconst 2, 1) := dla_14 (842, .iconst 2, 1) (List.mem_of_getElem? (i := 0) rfl)
theorem d_law_843 : decode code 843 = .ok (.iadd, 1) := dla_14 (843, .iadd, 1) (List.mem_of_getElem? (i := 1) rfl)
theorem d_law_844 : decode code 844 = .ok (.iaload, 1) := dla_14 (844, .iaload, 1) (List.mem_of_getElem? (i := 2) rfl)
theorem d_law_845 : decode code 845 = .ok (.invokevirtual 107, 3) := dla_14 (845, .invokevirtual 107, 3) (List.mem_of_getElem? (i := 3) rfl)
theorem d_law_848 : decode code 848 = .ok (.pop, 1) := dla_14 (848, .pop, 1) (List.mem_of_getElem? (i := 4) rfl)
theorem d_law_849 : decode code 849 = .ok (.goto 293, 3) := dla_14 (849, .goto 293, 3) (List.mem_of_getElem? (i := 5) rfl)
theorem d_law_852 : decode code 852 = .ok (.aload_n 1, 1) := dla_14 (852, .aload_n 1, 1) (List.mem_of_getElem? (i := 6) rfl)
theorem d_law_853 : decode code 853 = .ok (.aload_n 0, 1) := dla_14 (853, .aload_n 0, 1) (List.mem_of_getElem? (i := 7) rfl)
theorem d_law_854 : decode code 854 = .ok (.iload_n 3, 1) := dla_14 (854, .iload_n 3, 1) (List.mem_of_getElem? (i := 8) rfl)
theorem d_law_855 : decode code 855 = .ok (.iconst 1, 1) := dla_14 (855, .iconst 1, 1) (List.mem_of_getElem? (i := 9) rfl)
theorem d_law_856 : decode code 856 = .ok (.iadd, 1) := dla_14 (856, .iadd, 1) (List.mem_of_getElem? (i := 10) rfl)
theorem d_law_857 : decode code 857 = .ok (.iaload, 1) := dla_14 (857, .iaload, 1) (List.mem_of_getElem? (i := 11) rfl)
theorem d_law_858 : decode code 858 = .ok (.aload_n 0, 1) := dla_14 (858, .aload_n 0, 1) (List.mem_of_getElem? (i := 12) rfl)
theorem d_law_859 : decode code 859 = .ok (.iload_n 3, 1) := dla_14 (859, .iload_n 3, 1) (List.mem_of_getElem? (i := 13) rfl)
theorem d_law_860 : decode code 860 = .ok (.iconst 2, 1) := dla_14 (860, .iconst 2, 1) (List.mem_of_getElem? (i := 14) rfl)
theorem d_law_861 : decode code 861 = .ok (.iadd, 1) := dla_14 (861, .iadd, 1) (List.mem_of_getElem? (i := 15) rfl)
theorem d_law_862 : decode code 862 = .ok (.iaload, 1) := dla_14 (862, .iaload, 1) (List.mem_of_getElem? (i := 16) rfl)
theorem d_law_863 : decode code 863 = .ok (.aload_n 0, 1) := dla_14 (863, .aload_n 0, 1) (List.mem_of_getElem? (i := 17) rfl)
theorem d_law_864 : decode code 864 = .ok (.iload_n 3, 1) := dla_14 (864, .iload_n 3, 1) (List.mem_of_getElem? (i := 18) rfl)
theorem d_law_865 : decode code 865 = .ok (.iconst 3, 1) := dla_14 (865, .iconst 3, 1) (List.mem_of_getElem? (i := 19) rfl)
theorem d_law_866 : decode code 866 = .ok (.iadd, 1) := dla_14 (866, .iadd, 1) (List.mem_of_getElem? (i := 20) rfl)
theorem d_law_867 : decode code 867 = .ok (.iaload, 1) := dla_14 (867, .iaload, 1) (List.mem_of_getElem? (i := 21) rfl)
theorem d_law_868 : decode code 868 = .ok (.invokevirtual 108, 3) := dla_14 (868, .invokevirtual 108, 3) (List.mem_of_getElem? (i := 22) rfl)
theorem d_law_871 : decode code 871 = .ok (.pop, 1) := dla_14 (871, .pop, 1) (List.mem_of_getElem? (i := 23) rfl)
theorem d_law_872 : decode code 872 = .ok (.aload_n 2, 1) := dla_14 (872, .aload_n 2, 1) (List.mem_of_getElem? (i := 24) rfl)
theorem d_law_873 : decode code 873 = .ok (.aload_n 0, 1) := dla_14 (873, .aload_n 0, 1) (List.mem_of_getElem? (i := 25) rfl)
theorem d_law_874 : decode code 874 = .ok (.iload_n 3, 1) := dla_14 (874, .iload_n 3, 1) (List.mem_of_getElem? (i := 26) rfl)
theorem d_law_875 : decode code 875 = .ok (.iconst 1, 1) := dla_14 (875, .iconst 1, 1) (List.mem_of_getElem? (i := 27) rfl)
theorem d_law_876 : decode code 876 = .ok (.iadd, 1) := dla_14 (876, .iadd, 1) (List.mem_of_getElem? (i := 28) rfl)
theorem d_law_877 : decode code 877 = .ok (.iaload, 1) := dla_14 (877, .iaload, 1) (List.mem_of_getElem? (i := 29) rfl)
theorem d_law_878 : decode code 878 = .ok (.aload_n 0, 1) := dla_14 (878, .aload_n 0, 1) (List.mem_of_getElem? (i := 30) rfl)
theorem d_law_879 : decode code 879 = .ok (.iload_n 3, 1) := dla_14 (879, .iload_n 3, 1) (List.mem_of_getElem? (i := 31) rfl)
theorem d_law_880 : decode code 880 = .ok (.iconst 2, 1) := dla_14 (880, .iconst 2, 1) (List.mem_of_getElem? (i := 32) rfl)
theorem d_law_881 : decode code 881 = .ok (.iadd, 1) := dla_14 (881, .iadd, 1) (List.mem_of_getElem? (i := 33) rfl)
theorem d_law_882 : decode code 882 = .ok (.iaload, 1) := dla_14 (882, .iaload, 1) (List.mem_of_getElem? (i := 34) rfl)
theorem d_law_883 : decode code 883 = .ok (.aload_n 0, 1) := dla_14 (883, .aload_n 0, 1) (List.mem_of_getElem? (i := 35) rfl)
theorem d_law_884 : decode code 884 = .ok (.iload_n 3, 1) := dla_14 (884, .iload_n 3, 1) (List.mem_of_getElem? (i := 36) rfl)
theorem d_law_885 : decode code 885 = .ok (.iconst 3, 1) := dla_14 (885, .iconst 3, 1) (List.mem_of_getElem? (i := 37) rfl)
theorem d_law_886 : decode code 886 = .ok (.iadd, 1) := dla_14 (886, .iadd, 1) (List.mem_of_getElem? (i := 38) rfl)
theorem d_law_887 : decode code 887 = .ok (.iaload, 1) := dla_14 (887, .iaload, 1) (List.mem_of_getElem? (i := 39) rfl)
def dli_15 : List (Nat × Instr × Nat) := [(888, .invokevirtual 111, 3), (891, .pop, 1), (892, .goto 250, 3), (895, .aload_n 1, 1), (896, .aload_n 0, 1), (897, .iload_n 3, 1), (898, .iconst 1, 1), (899, .iadd, 1), (900, .iaload, 1), (901, .aload_n 0, 1), (902, .iload_n 3, 1), (903, .iconst 2, 1), (904, .iadd, 1), (905, .iaload, 1), (906, .aload_n 0, 1), (907, .iload_n 3, 1), (908, .iconst 3, 1), (909, .iadd, 1), (910, .iaload, 1), (911, .aload_n 0, 1), (912, .iload_n 3, 1), (913, .iconst 4, 1), (914, .iadd, 1), (915, .iaload, 1), (916, .invokevirtual 112, 3), (919, .pop, 1), (920, .aload_n 2, 1), (921, .aload_n 0, 1), (922, .iload_n 3, 1), (923, .iconst 1, 1), (924, .iadd, 1), (925, .iaload, 1), (926, .aload_n 0, 1), (927, .iload_n 3, 1), (928, .iconst 2, 1), (929, .iadd, 1), (930, .iaload, 1), (931, .aload_n 0, 1), (932, .iload_n 3, 1), (933, .iconst 3, 1)]
set_option maxRecDepth 100000 in
theorem dla_15 : ∀ q ∈ dli_15, decode code q.1 = .ok q.2 := by decide +kernel
theorem d_law_888 : decode code 888 = .ok (.invokevirtual 111, 3) := dla_15 (888, .invokevirtual 111, 3) (List.mem_of_getElem? (i := 0) rfl)
theorem d_law_891 : decode code 891 = .ok (.pop, 1) := dla_15 (891, .pop, 1) (List.mem_of_getElem? (i := 1) rfl)
theorem d_law_892 : decode code 892 = .ok (.goto 250, 3) := dla_15 (892, .goto 250, 3) (List.mem_of_getElem? (i := 2) rfl)
theorem d_law_895 : decode code 895 = .ok (.aload_n 1, 1) := dla_15 (895, .aload_n 1, 1) (List.mem_of_getElem? (i := 3) rfl)
theorem d_law_896 : decode code 896 = .ok (.aload_n 0, 1) := dla_15 (896, .aload_n 0, 1) (List.mem_of_getElem? (i := 4) rfl)
theorem d_law_897 : decode code 897 = .ok (.iload_n 3, 1) := dla_15 (897, .iload_n 3, 1) (List.mem_of_getElem? (i := 5) rfl)
theorem d_law_898 : decode code 898 = .ok (.iconst 1, 1) := dla_15 (898, .iconst 1, 1) (List.mem_of_getElem? (i := 6) rfl)
theorem d_law_899 : decode code 899 = .ok (.iadd, 1) := dla_15 (899, .iadd, 1) (List.mem_of_getElem? (i := 7) rfl)
theorem d_law_900 : decode code 900 = .ok (.iaload, 1) := dla_15 (900, .iaload, 1) (List.mem_of_getElem? (i := 8) rfl)
theorem d_law_901 : decode code 901 = .ok (.aload_n 0, 1) := dla_15 (901, .aload_n 0, 1) (List.mem_of_getElem? (i := 9) rfl)
theorem d_law_902 : decode code 902 = .ok (.iload_n 3, 1) := dla_15 (902, .iload_n 3, 1) (List.mem_of_getElem? (i := 10) rfl)
theorem d_law_903 : decode code 903 = .ok (.iconst 2, 1) := dla_15 (903, .iconst 2, 1) (List.mem_of_getElem? (i := 11) rfl)
theorem d_law_904 : decode code 904 = .ok (.iadd, 1) := dla_15 (904, .iadd, 1) (List.mem_of_getElem? (i := 12) rfl)
theorem d_law_905 : decode code 905 = .ok (.iaload, 1) := dla_15 (905, .iaload, 1) (List.mem_of_getElem? (i := 13) rfl)
theorem d_law_906 : decode code 906 = .ok (.aload_n 0, 1) := dla_15 (906, .aload_n 0, 1) (List.mem_of_getElem? (i := 14) rfl)
theorem d_law_907 : decode code 907 = .ok (.iload_n 3, 1) := dla_15 (907, .iload_n 3, 1) (List.mem_of_getElem? (i := 15) rfl)
theorem d_law_908 : decode code 908 = .ok (.iconst 3, 1) := dla_15 (908, .iconst 3, 1) (List.mem_of_getElem? (i := 16) rfl)
theorem d_law_909 : decode code 909 = .ok (.iadd, 1) := dla_15 (909, .iadd, 1) (List.mem_of_getElem? (i := 17) rfl)
theorem d_law_910 : decode code 910 = .ok (.iaload, 1) := dla_15 (910, .iaload, 1) (List.mem_of_getElem? (i := 18) rfl)
theorem d_law_911 : decode code 911 = .ok (.aload_n 0, 1) := dla_15 (911, .aload_n 0, 1) (List.mem_of_getElem? (i := 19) rfl)
theorem d_law_912 : decode code 912 = .ok (.iload_n 3, 1) := dla_15 (912, .iload_n 3, 1) (List.mem_of_getElem? (i := 20) rfl)
theorem d_law_913 : decode code 913 = .ok (.iconst 4, 1) := dla_15 (913, .iconst 4, 1) (List.mem_of_getElem? (i := 21) rfl)
theorem d_law_914 : decode code 914 = .ok (.iadd, 1) := dla_15 (914, .iadd, 1) (List.mem_of_getElem? (i := 22) rfl)
theorem d_law_915 : decode code 915 = .ok (.iaload, 1) := dla_15 (915, .iaload, 1) (List.mem_of_getElem? (i := 23) rfl)
theorem d_law_916 : decode code 916 = .ok (.invokevirtual 112, 3) := dla_15 (916, .invokevirtual 112, 3) (List.mem_of_getElem? (i := 24) rfl)
theorem d_law_919 : decode code 919 = .ok (.pop, 1) := dla_15 (919, .pop, 1) (List.mem_of_getElem? (i := 25) rfl)
theorem d_law_920 : decode code 920 = .ok (.aload_n 2, 1) := dla_15 (920, .aload_n 2, 1) (List.mem_of_getElem? (i := 26) rfl)
theorem d_law_921 : decode code 921 = .ok (.aload_n 0, 1) := dla_15 (921, .aload_n 0, 1) (List.mem_of_getElem? (i := 27) rfl)
theorem d_law_922 : decode code 922 = .ok (.iload_n 3, 1) := dla_15 (922, .iload_n 3, 1) (List.mem_of_getElem? (i := 28) rfl)
theorem d_law_923 : decode code 923 = .ok (.iconst 1, 1) := dla_15 (923, .iconst 1, 1) (List.mem_of_getElem? (i := 29) rfl)
theorem d_law_924 : decode code 924 = .ok (.iadd, 1) := dla_15 (924, .iadd, 1) (List.mem_of_getElem? (i := 30) rfl)
theorem d_law_925 : decode code 925 = .ok (.iaload, 1) := dla_15 (925, .iaload, 1) (List.mem_of_getElem? (i := 31) rfl)
theorem d_law_926 : decode code 926 = .ok (.aload_n 0, 1) := dla_15 (926, .aload_n 0, 1) (List.mem_of_getElem? (i := 32) rfl)
theorem d_law_927 : decode code 927 = .ok (.iload_n 3, 1) := dla_15 (927, .iload_n 3, 1) (List.mem_of_getElem? (i := 33) rfl)
theorem d_law_928 : decode code 928 = .ok (.iconst 2, 1) := dla_15 (928, .iconst 2, 1) (List.mem_of_getElem? (i := 34) rfl)
theorem d_law_929 : decode code 929 = .ok (.iadd, 1) := dla_15 (929, .iadd, 1) (List.mem_of_getElem? (i := 35) rfl)
theorem d_law_930 : decode code 930 = .ok (.iaload, 1) := dla_15 (930, .iaload, 1) (List.mem_of_getElem? (i := 36) rfl)
theorem d_law_931 : decode code 931 = .ok (.aload_n 0, 1) := dla_15 (931, .aload_n 0, 1) (List.mem_of_getElem? (i := 37) rfl)
theorem d_law_932 : decode code 932 = .ok (.iload_n 3, 1) := dla_15 (932, .iload_n 3, 1) (List.mem_of_getElem? (i := 38) rfl)
theorem d_law_933 : decode code 933 = .ok (.iconst 3, 1) := dla_15 (933, .iconst 3, 1) (List.mem_of_getElem? (i := 39) rfl)
def dli_16 : List (Nat × Instr × Nat) := [(934, .iadd, 1), (935, .iaload, 1), (936, .aload_n 0, 1), (937, .iload_n 3, 1), (938, .iconst 4, 1), (939, .iadd, 1), (940, .iaload, 1), (941, .invokevirtual 115, 3), (944, .pop, 1), (945, .goto 197, 3), (948, .aload_n 1, 1), (949, .aload_n 0, 1), (950, .iload_n 3, 1), (951, .iconst 1, 1), (952, .iadd, 1), (953, .iaload, 1), (954, .aload_n 0, 1), (955, .iload_n 3, 1), (956, .iconst 2, 1), (957, .iadd, 1), (958, .iaload, 1), (959, .aload_n 0, 1), (960, .iload_n 3, 1), (961, .iconst 3, 1), (962, .iadd, 1), (963, .iaload, 1), (964, .invokevirtual 116, 3), (967, .pop, 1), (968, .aload_n 2, 1), (969, .aload_n 0, 1), (970, .iload_n 3, 1), (971, .iconst 1, 1), (972, .iadd, 1), (973, .iaload, 1), (974, .aload_n 0, 1), (975, .iload_n 3, 1), (976, .iconst 2, 1), (977, .iadd, 1), (978, .iaload, 1), (979, .aload_n 0, 1)]
set_option maxRecDepth 100000 in
theorem dla_16 : ∀ q ∈ dli_16, decode code q.1 = .ok q.2 := by decide +kernel
theorem d_law_934 : decode code 934 = .ok (.iadd, 1) := dla_16 (934, .iadd, 1) (List.mem_of_getElem? (i := 0) rfl)
theorem d_law_935 : decode code 935 = .ok (.iaload, 1) := dla_16 (935, .iaload, 1) (List.mem_of_getElem? (i := 1) rfl)
theorem d_law_936 : decode code 936 = .ok (.aload_n 0, 1) := dla_16 (936, .aload_n 0, 1) (List.mem_of_getElem? (i := 2) rfl)
theorem d_law_937 : decode code 937 = .ok (.iload_n 3, 1) := dla_16 (937, .iload_n 3, 1) (List.mem_of_getElem? (i := 3) rfl)
theorem d_law_938 : decode code 938 = .ok (.iconst 4, 1) := dla_16 (938, .iconst 4, 1) (List.mem_of_getElem? (i := 4) rfl)
theorem d_law_939 : decode code 939 = .ok (.iadd, 1) := dla_16 (939, .iadd, 1) (List.mem_of_getElem? (i := 5) rfl)
theorem d_law_940 : decode code 940 = .ok (.iaload, 1) := dla_16 (940, .iaload, 1) (List.mem_of_getElem? (i := 6) rfl)
theorem d_law_941 : decode code 941 = .ok (.invokevirtual 115, 3) := dla_16 (941, .invokevirtual 115, 3) (List.mem_of_getElem? (i := 7) rfl)
theorem d_law_944 : decode code 944 = .ok (.pop, 1) := dla_16 (944, .pop, 1) (List.mem_of_getElem? (i := 8) rfl)
theorem d_law_945 : decode code 945 = .ok (.goto 197, 3) := dla_16 (945, .goto 197, 3) (List.mem_of_getElem? (i := 9) rfl)
theorem d_law_948 : decode code 948 = .ok (.aload_n 1, 1) := dla_16 (948, .aload_n 1, 1) (List.mem_of_getElem? (i := 10) rfl)
theorem d_law_949 : decode code 949 = .ok (.aload_n 0, 1) := dla_16 (949, .aload_n 0, 1) (List.mem_of_getElem? (i := 11) rfl)
theorem d_law_950 : decode code 950 = .ok (.iload_n 3, 1) := dla_16 (950, .iload_n 3, 1) (List.mem_of_getElem? (i := 12) rfl)
theorem d_law_951 : decode code 951 = .ok (.iconst 1, 1) := dla_16 (951, .iconst 1, 1) (List.mem_of_getElem? (i := 13) rfl)
theorem d_law_952 : decode code 952 = .ok (.iadd, 1) := dla_16 (952, .iadd, 1) (List.mem_of_getElem? (i := 14) rfl)
theorem d_law_953 : decode code 953 = .ok (.iaload, 1) := dla_16 (953, .iaload, 1) (List.mem_of_getElem? (i := 15) rfl)
theorem d_law_954 : decode code 954 = .ok (.aload_n 0, 1) := dla_16 (954, .aload_n 0, 1) (List.mem_of_getElem? (i := 16) rfl)
theorem d_law_955 : decode code 955 = .ok (.iload_n 3, 1) := dla_16 (955, .iload_n 3, 1) (List.mem_of_getElem? (i := 17) rfl)
theorem d_law_956 : decode code 956 = .ok (.iconst 2, 1) := dla_16 (956, .iconst 2, 1) (List.mem_of_getElem? (i := 18) rfl)
theorem d_law_957 : decode code 957 = .ok (.iadd, 1) := dla_16 (957, .iadd, 1) (List.mem_of_getElem? (i := 19) rfl)
theorem d_law_958 : decode code 958 = .ok (.iaload, 1) := dla_16 (958, .iaload, 1) (List.mem_of_getElem? (i := 20) rfl)
theorem d_law_959 : decode code 959 = .ok (.aload_n 0, 1) := dla_16 (959, .aload_n 0, 1) (List.mem_of_getElem? (i := 21) rfl)
theorem d_law_960 : decode code 960 = .ok (.iload_n 3, 1) := dla_16 (960, .iload_n 3, 1) (List.mem_of_getElem? (i := 22) rfl)
theorem d_law_961 : decode code 961 = .ok (.iconst 3, 1) := dla_16 (961, .iconst 3, 1) (List.mem_of_getElem? (i := 23) rfl)
theorem d_law_962 : decode code 962 = .ok (.iadd, 1) := dla_16 (962, .iadd, 1) (List.mem_of_getElem? (i := 24) rfl)
theorem d_law_963 : decode code 963 = .ok (.iaload, 1) := dla_16 (963, .iaload, 1) (List.mem_of_getElem? (i := 25) rfl)
theorem d_law_964 : decode code 964 = .ok (.invokevirtual 116, 3) := dla_16 (964, .invokevirtual 116, 3) (List.mem_of_getElem? (i := 26) rfl)
theorem d_law_967 : decode code 967 = .ok (.pop, 1) := dla_16 (967, .pop, 1) (List.mem_of_getElem? (i := 27) rfl)
theorem d_law_968 : decode code 968 = .ok (.aload_n 2, 1) := dla_16 (968, .aload_n 2, 1) (List.mem_of_getElem? (i := 28) rfl)
theorem d_law_969 : decode code 969 = .ok (.aload_n 0, 1) := dla_16 (969, .aload_n 0, 1) (List.mem_of_getElem? (i := 29) rfl)
theorem d_law_970 : decode code 970 = .ok (.iload_n 3, 1) := dla_16 (970, .iload_n 3, 1) (List.mem_of_getElem? (i := 30) rfl)
theorem d_law_971 : decode code 971 = .ok (.iconst 1, 1) := dla_16 (971, .iconst 1, 1) (List.mem_of_getElem? (i := 31) rfl)
theorem d_law_972 : decode code 972 = .ok (.iadd, 1) := dla_16 (972, .iadd, 1) (List.mem_of_getElem? (i := 32) rfl)
theorem d_law_973 : decode code 973 = .ok (.iaload, 1) := dla_16 (973, .iaload, 1) (List.mem_of_getElem? (i := 33) rfl)
theorem d_law_974 : decode code 974 = .ok (.aload_n 0, 1) := dla_16 (974, .aload_n 0, 1) (List.mem_of_getElem? (i := 34) rfl)
theorem d_law_975 : decode code 975 = .ok (.iload_n 3, 1) := dla_16 (975, .iload_n 3, 1) (List.mem_of_getElem? (i := 35) rfl)
theorem d_law_976 : decode code 976 = .ok (.iconst 2, 1) := dla_16 (976, .iconst 2, 1) (List.mem_of_getElem? (i := 36) rfl)
theorem d_law_977 : decode code 977 = .ok (.iadd, 1) := dla_16 (977, .iadd, 1) (List.mem_of_getElem? (i := 37) rfl)
theorem d_law_978 : decode code 978 = .ok (.iaload, 1) := dla_16 (978, .iaload, 1) (List.mem_of_getElem? (i := 38) rfl)
theorem d_law_979 : decode code 979 = .ok (.aload_n 0, 1) := dla_16 (979, .aload_n 0, 1) (List.mem_of_getElem? (i := 39) rfl)
def dli_17 : List (Nat × Instr × Nat) := [(980, .iload_n 3, 1), (981, .iconst 3, 1), (982, .iadd, 1), (983, .iaload, 1), (984, .invokevirtual 119, 3), (987, .pop, 1), (988, .goto 154, 3), (991, .aload_n 1, 1), (992, .invokevirtual 120, 3), (995, .pop, 1), (996, .aload_n 2, 1), (997, .invokevirtual 123, 3), (1000, .pop, 1), (1001, .goto 141, 3), (1004, .aload_n 1, 1), (1005, .aload_n 0, 1), (1006, .iload_n 3, 1), (1007, .iconst 1, 1), (1008, .iadd, 1), (1009, .iaload, 1), (1010, .invokevirtual 124, 3), (1013, .pop, 1), (1014, .aload_n 2, 1), (1015, .aload_n 0, 1), (1016, .iload_n 3, 1), (1017, .iconst 1, 1), (1018, .iadd, 1), (1019, .iaload, 1), (1020, .invokevirtual 127, 3), (1023, .pop, 1), (1024, .goto 118, 3), (1027, .aload_n 1, 1), (1028, .aload_n 0, 1), (1029, .iload_n 3, 1), (1030, .iconst 1, 1), (1031, .iadd, 1), (1032, .iaload, 1), (1033, .invokevirtual 128, 3), (1036, .aload_n 2, 1), (1037, .aload_n 0, 1)]
set_option maxRecDepth 100000 in
theorem dla_17 : ∀ q ∈ dli_17, decode code q.1 = .ok q.2 := by decide +kernel
theorem d_law_980 : decode code 980 = .ok (.iload_n 3, 1) := dla_17 (980, .iload_n 3, 1) (List.mem_of_getElem? (i := 0) rfl)
theorem d_law_981 : decode code 981 = .ok (.iconst 3, 1) := dla_17 (981, .iconst 3, 1) (List.mem_of_getElem? (i := 1) rfl)
theorem d_law_982 : decode code 982 = .ok (.iadd, 1) := dla_17 (982, .iadd, 1) (List.mem_of_getElem? (i := 2) rfl)
theorem d_law_983 : decode code 983 = .ok (.iaload, 1) := dla_17 (983, .iaload, 1) (List.mem_of_getElem? (i := 3) rfl)
theorem d_law_984 : decode code 984 = .ok (.invokevirtual 119, 3) := dla_17 (984, .invokevirtual 119, 3) (List.mem_of_getElem? (i := 4) rfl)
theorem d_law_987 : decode code 987 = .ok (.pop, 1) := dla_17 (987, .pop, 1) (List.mem_of_getElem? (i := 5) rfl)
theorem d_law_988 : decode code 988 = .ok (.goto 154, 3) := dla_17 (988, .goto 154, 3) (List.mem_of_getElem? (i := 6) rfl)
theorem d_law_991 : decode code 991 = .ok (.aload_n 1, 1) := dla_17 (991, .aload_n 1, 1) (List.mem_of_getElem? (i := 7) rfl)
theorem d_law_992 : decode code 992 = .ok (.invokevirtual 120, 3) := dla_17 (992, .invokevirtual 120, 3) (List.mem_of_getElem? (i := 8) rfl)
theorem d_law_995 : decode code 995 = .ok (.pop, 1) := dla_17 (995, .pop, 1) (List.mem_of_getElem? (i := 9) rfl)
theorem d_law_996 : decode code 996 = .ok (.aload_n 2, 1) := dla_17 (996, .aload_n 2, 1) (List.mem_of_getElem? (i := 10) rfl)
theorem d_law_997 : decode code 997 = .ok (.invokevirtual 123, 3) := dla_17 (997, .invokevirtual 123, 3) (List.mem_of_getElem? (i := 11) rfl)
theorem d_law_1000 : decode code 1000 = .ok (.pop, 1) := dla_17 (1000, .pop, 1) (List.mem_of_getElem? (i := 12) rfl)
theorem d_law_1001 : decode code 1001 = .ok (.goto 141, 3) := dla_17 (1001, .goto 141, 3) (List.mem_of_getElem? (i := 13) rfl)
theorem d_law_1004 : decode code 1004 = .ok (.aload_n 1, 1) := dla_17 (1004, .aload_n 1, 1) (List.mem_of_getElem? (i := 14) rfl)
theorem d_law_1005 : decode code 1005 = .ok (.aload_n 0, 1) := dla_17 (1005, .aload_n 0, 1) (List.mem_of_getElem? (i := 15) rfl)
theorem d_law_1006 : decode code 1006 = .ok (.iload_n 3, 1) := dla_17 (1006, .iload_n 3, 1) (List.mem_of_getElem? (i := 16) rfl)
theorem d_law_1007 : decode code 1007 = .ok (.iconst 1, 1) := dla_17 (1007, .iconst 1, 1) (List.mem_of_getElem? (i := 17) rfl)
theorem d_law_1008 : decode code 1008 = .ok (.iadd, 1) := dla_17 (1008, .iadd, 1) (List.mem_of_getElem? (i := 18) rfl)
theorem d_law_1009 : decode code 1009 = .ok (.iaload, 1) := dla_17 (1009, .iaload, 1) (List.mem_of_getElem? (i := 19) rfl)
theorem d_law_1010 : decode code 1010 = .ok (.invokevirtual 124, 3) := dla_17 (1010, .invokevirtual 124, 3) (List.mem_of_getElem? (i := 20) rfl)
theorem d_law_1013 : decode code 1013 = .ok (.pop, 1) := dla_17 (1013, .pop, 1) (List.mem_of_getElem? (i := 21) rfl)
theorem d_law_1014 : decode code 1014 = .ok (.aload_n 2, 1) := dla_17 (1014, .aload_n 2, 1) (List.mem_of_getElem? (i := 22) rfl)
theorem d_law_1015 : decode code 1015 = .ok (.aload_n 0, 1) := dla_17 (1015, .aload_n 0, 1) (List.mem_of_getElem? (i := 23) rfl)
theorem d_law_1016 : decode code 1016 = .ok (.iload_n 3, 1) := dla_17 (1016, .iload_n 3, 1) (List.mem_of_getElem? (i := 24) rfl)
theorem d_law_1017 : decode code 1017 = .ok (.iconst 1, 1) := dla_17 (1017, .iconst 1, 1) (List.mem_of_getElem? (i := 25) rfl)
theorem d_law_1018 : decode code 1018 = .ok (.iadd, 1) := dla_17 (1018, .iadd, 1) (List.mem_of_getElem? (i := 26) rfl)
theorem d_law_1019 : decode code 1019 = .ok (.iaload, 1) := dla_17 (1019, .iaload, 1) (List.mem_of_getElem? (i := 27) rfl)
theorem d_law_1020 : decode code 1020 = .ok (.invokevirtual 127, 3) := dla_17 (1020, .invokevirtual 127, 3) (List.mem_of_getElem? (i := 28) rfl)
theorem d_law_1023 : decode code 1023 = .ok (.pop, 1) := dla_17 (1023, .pop, 1) (List.mem_of_getElem? (i := 29) rfl)
theorem d_law_1024 : decode code 1024 = .ok (.goto 118, 3) := dla_17 (1024, .goto 118, 3) (List.mem_of_getElem? (i := 30) rfl)
theorem d_law_1027 : decode code 1027 = .ok (.aload_n 1, 1) := dla_17 (1027, .aload_n 1, 1) (List.mem_of_getElem? (i := 31) rfl)
theorem d_law_1028 : decode code 1028 = .ok (.aload_n 0, 1) := dla_17 (1028, .aload_n 0, 1) (List.mem_of_getElem? (i := 32) rfl)
theorem d_law_1029 : decode code 1029 = .ok (.iload_n 3, 1) := dla_17 (1029, .iload_n 3, 1) (List.mem_of_getElem? (i := 33) rfl)
theorem d_law_1030 : decode code 1030 = .ok (.iconst 1, 1) := dla_17 (1030, .iconst 1, 1) (List.mem_of_getElem? (i := 34) rfl)
theorem d_law_1031 : decode code 1031 = .ok (.iadd, 1) := dla_17 (1031, .iadd, 1) (List.mem_of_getElem? (i := 35) rfl)
theorem d_law_1032 : decode code 1032 = .ok (.iaload, 1) := dla_17 (1032, .iaload, 1) (List.mem_of_getElem? (i := 36) rfl)
theorem d_law_1033 : decode code 1033 = .ok (.invokevirtual 128, 3) := dla_17 (1033, .invokevirtual 128, 3) (List.mem_of_getElem? (i := 37) rfl)
theorem d_law_1036 : decode code 1036 = .ok (.aload_n 2, 1) := dla_17 (1036, .aload_n 2, 1) (List.mem_of_getElem? (i := 38) rfl)
theorem d_law_1037 : decode code 1037 = .ok (.aload_n 0, 1) := dla_17 (1037, .aload_n 0, 1) (List.mem_of_getElem? (i := 39) rfl)
def dli_18 : List (Nat × Instr × Nat) := [(1038, .iload_n 3, 1), (1039, .iconst 1, 1), (1040, .iadd, 1), (1041, .iaload, 1), (1042, .invokevirtual 131, 3), (1045, .if_icmp .eq 97, 3), (1048, .iconst 0, 1), (1049, .ireturn, 1), (1050, .aload_n 1, 1), (1051, .aload_n 0, 1), (1052, .iload_n 3, 1), (1053, .iconst 1, 1), (1054, .iadd, 1), (1055, .iaload, 1), (1056, .invokevirtual 132, 3), (1059, .pop, 1), (1060, .aload_n 2, 1), (1061, .aload_n 0, 1), (1062, .iload_n 3, 1), (1063, .iconst 1, 1), (1064, .iadd, 1), (1065, .iaload, 1), (1066, .invokevirtual 135, 3), (1069, .pop, 1), (1070, .goto 72, 3), (1073, .aload_n 1, 1), (1074, .aload_n 0, 1), (1075, .iload_n 3, 1), (1076, .iconst 1, 1), (1077, .iadd, 1), (1078, .iaload, 1), (1079, .invokevirtual 136, 3), (1082, .pop, 1), (1083, .aload_n 2, 1), (1084, .aload_n 0, 1), (1085, .iload_n 3, 1), (1086, .iconst 1, 1), (1087, .iadd, 1), (1088, .iaload, 1), (1089, .invokevirtual 140, 3)]
set_option maxRecDepth 100000 in
theorem dla_18 : ∀ q ∈ dli_18, decode code q.1 = .ok q.2 := by decide +kernel
theorem d_law_1038 : decode code 1038 = .ok (.iload_n 3, 1) := dla_18 (1038, .iload_n 3, 1) (List.mem_of_getElem? (i := 0) rfl)
theorem d_law_1039 : decode code 1039 = .ok (.iconst 1, 1) := dla_18 (1039, .iconst 1, 1) (List.mem_of_getElem? (i := 1) rfl)
theorem d_law_1040 : decode code 1040 = .ok (.iadd, 1) := dla_18 (1040, .iadd, 1) (List.mem_of_getElem? (i := 2) rfl)
theorem d_law_1041 : decode code 1041 = .ok (.iaload, 1) := dla_18 (1041, .iaload, 1) (List.mem_of_getElem? (i := 3) rfl)
theorem d_law_1042 : decode code 1042 = .ok (.invokevirtual 131, 3) := dla_18 (1042, .invokevirtual 131, 3) (List.mem_of_getElem? (i := 4) rfl)
theorem d_law_1045 : decode code 1045 = .ok (.if_icmp .eq 97, 3) := dla_18 (1045, .if_icmp .eq 97, 3) (List.mem_of_getElem? (i := 5) rfl)
theorem d_law_1048 : decode code 1048 = .ok (.iconst 0, 1) := dla_18 (1048, .iconst 0, 1) (List.mem_of_getElem? (i := 6) rfl)
theorem d_law_1049 : decode code 1049 = .ok (.ireturn, 1) := dla_18 (1049, .ireturn, 1) (List.mem_of_getElem? (i := 7) rfl)
theorem d_law_1050 : decode code 1050 = .ok (.aload_n 1, 1) := dla_18 (1050, .aload_n 1, 1) (List.mem_of_getElem? (i := 8) rfl)
theorem d_law_1051 : decode code 1051 = .ok (.aload_n 0, 1) := dla_18 (1051, .aload_n 0, 1) (List.mem_of_getElem? (i := 9) rfl)
theorem d_law_1052 : decode code 1052 = .ok (.iload_n 3, 1) := dla_18 (1052, .iload_n 3, 1) (List.mem_of_getElem? (i := 10) rfl)
theorem d_law_1053 : decode code 1053 = .ok (.iconst 1, 1) := dla_18 (1053, .iconst 1, 1) (List.mem_of_getElem? (i := 11) rfl)
theorem d_law_1054 : decode code 1054 = .ok (.iadd, 1) := dla_18 (1054, .iadd, 1) (List.mem_of_getElem? (i := 12) rfl)
theorem d_law_1055 : decode code 1055 = .ok (.iaload, 1) := dla_18 (1055, .iaload, 1) (List.mem_of_getElem? (i := 13) rfl)
theorem d_law_1056 : decode code 1056 = .ok (.invokevirtual 132, 3) := dla_18 (1056, .invokevirtual 132, 3) (List.mem_of_getElem? (i := 14) rfl)
theorem d_law_1059 : decode code 1059 = .ok (.pop, 1) := dla_18 (1059, .pop, 1) (List.mem_of_getElem? (i := 15) rfl)
theorem d_law_1060 : decode code 1060 = .ok (.aload_n 2, 1) := dla_18 (1060, .aload_n 2, 1) (List.mem_of_getElem? (i := 16) rfl)
theorem d_law_1061 : decode code 1061 = .ok (.aload_n 0, 1) := dla_18 (1061, .aload_n 0, 1) (List.mem_of_getElem? (i := 17) rfl)
theorem d_law_1062 : decode code 1062 = .ok (.iload_n 3, 1) := dla_18 (1062, .iload_n 3, 1) (List.mem_of_getElem? (i := 18) rfl)
theorem d_law_1063 : decode code 1063 = .ok (.iconst 1, 1) := dla_18 (1063, .iconst 1, 1) (List.mem_of_getElem? (i := 19) rfl)
theorem d_law_1064 : decode code 1064 = .ok (.iadd, 1) := dla_18 (1064, .iadd, 1) (List.mem_of_getElem? (i := 20) rfl)
theorem d_law_1065 : decode code 1065 = .ok (.iaload, 1) := dla_18 (1065, .iaload, 1) (List.mem_of_getElem? (i := 21) rfl)
theorem d_law_1066 : decode code 1066 = .ok (.invokevirtual 135, 3) := dla_18 (1066, .invokevirtual 135, 3) (List.mem_of_getElem? (i := 22) rfl)
theorem d_law_1069 : decode code 1069 = .ok (.pop, 1) := dla_18 (1069, .pop, 1) (List.mem_of_getElem? (i := 23) rfl)
theorem d_law_1070 : decode code 1070 = .ok (.goto 72, 3) := dla_18 (1070, .goto 72, 3) (List.mem_of_getElem? (i := 24) rfl)
theorem d_law_1073 : decode code 1073 = .ok (.aload_n 1, 1) := dla_18 (1073, .aload_n 1, 1) (List.mem_of_getElem? (i := 25) rfl)
theorem d_law_1074 : decode code 1074 = .ok (.aload_n 0, 1) := dla_18 (1074, .aload_n 0, 1) (List.mem_of_getElem? (i := 26) rfl)
theorem d_law_1075 : decode code 1075 = .ok (.iload_n 3, 1) := dla_18 (1075, .iload_n 3, 1) (List.mem_of_getElem? (i := 27) rfl)
theorem d_law_1076 : decode code 1076 = .ok (.iconst 1, 1) := dla_18 (1076, .iconst 1, 1) (List.mem_of_getElem? (i := 28) rfl)
theorem d_law_1077 : decode code 1077 = .ok (.iadd, 1) := dla_18 (1077, .iadd, 1) (List.mem_of_getElem? (i := 29) rfl)
theorem d_law_1078 : decode code 1078 = .ok (.iaload, 1) := dla_18 (1078, .iaload, 1) (List.mem_of_getElem? (i := 30) rfl)
theorem d_law_1079 : decode code 1079 = .ok (.invokevirtual 136, 3) := dla_18 (1079, .invokevirtual 136, 3) (List.mem_of_getElem? (i := 31) rfl)
theorem d_law_1082 : decode code 1082 = .ok (.pop, 1) := dla_18 (1082, .pop, 1) (List.mem_of_getElem? (i := 32) rfl)
theorem d_law_1083 : decode code 1083 = .ok (.aload_n 2, 1) := dla_18 (1083, .aload_n 2, 1) (List.mem_of_getElem? (i := 33) rfl)
theorem d_law_1084 : decode code 1084 = .ok (.aload_n 0, 1) := dla_18 (1084, .aload_n 0, 1) (List.mem_of_getElem? (i := 34) rfl)
theorem d_law_1085 : decode code 1085 = .ok (.iload_n 3, 1) := dla_18 (1085, .iload_n 3, 1) (List.mem_of_getElem? (i := 35) rfl)
theorem d_law_1086 : decode code 1086 = .ok (.iconst 1, 1) := dla_18 (1086, .iconst 1, 1) (List.mem_of_getElem? (i := 36) rfl)
theorem d_law_1087 : decode code 1087 = .ok (.iadd, 1) := dla_18 (1087, .iadd, 1) (List.mem_of_getElem? (i := 37) rfl)
theorem d_law_1088 : decode code 1088 = .ok (.iaload, 1) := dla_18 (1088, .iaload, 1) (List.mem_of_getElem? (i := 38) rfl)
theorem d_law_1089 : decode code 1089 = .ok (.invokevirtual 140, 3) := dla_18 (1089, .invokevirtual 140, 3) (List.mem_of_getElem? (i := 39) rfl)
def dli_19 : List (Nat × Instr × Nat) := [(1092, .pop, 1), (1093, .goto 49, 3), (1096, .aload_n 1, 1), (1097, .aload_n 0, 1), (1098, .iload_n 3, 1), (1099, .iconst 1, 1), (1100, .iadd, 1), (1101, .iaload, 1), (1102, .invokevirtual 141, 3), (1105, .pop, 1), (1106, .aload_n 2, 1), (1107, .aload_n 0, 1), (1108, .iload_n 3, 1), (1109, .iconst 1, 1), (1110, .iadd, 1), (1111, .iaload, 1), (1112, .invokevirtual 144, 3), (1115, .pop, 1), (1116, .goto 26, 3), (1119, .aload_n 1, 1), (1120, .aload_n 0, 1), (1121, .iload_n 3, 1), (1122, .iconst 1, 1), (1123, .iadd, 1), (1124, .iaload, 1), (1125, .invokevirtual 145, 3), (1128, .pop, 1), (1129, .aload_n 2, 1), (1130, .aload_n 0, 1), (1131, .iload_n 3, 1), (1132, .iconst 1, 1), (1133, .iadd, 1), (1134, .iaload, 1), (1135, .invokevirtual 148, 3), (1138, .pop, 1), (1139, .goto 3, 3), (1142, .iinc 3 6, 3), (1145, .goto (-1127), 3), (1148, .iconst 1, 1), (1149, .ireturn, 1)]
set_option maxRecDepth 100000 in
theorem dla_19 : ∀ q ∈ dli_19, decode code q.1 = .ok q.2 := by decide +kernel
theorem d_law_1092 : decode code 1092 = .ok (.pop, 1) := dla_19 (1092, .pop, 1) (List.mem_of_getElem? (i := 0) rfl)
theorem d_law_1093 : decode code 1093 = .ok (.goto 49, 3) := dla_19 (1093, .goto 49, 3) (List.mem_of_getElem? (i := 1) rfl)
theorem d_law_1096 : decode code 1096 = .ok (.aload_n 1, 1) := dla_19 (1096, .aload_n 1, 1) (List.mem_of_getElem? (i := 2) rfl)
theorem d_law_1097 : decode code 1097 = .ok (.aload_n 0, 1) := dla_19 (1097, .aload_n 0, 1) (List.mem_of_getElem? (i := 3) rfl)
theorem d_law_1098 : decode code 1098 = .ok (.iload_n 3, 1) := dla_19 (1098, .iload_n 3, 1) (List.mem_of_getElem? (i := 4) rfl)
theorem d_law_1099 : decode code 1099 = .ok (.iconst 1, 1) := dla_19 (1099, .iconst 1, 1) (List.mem_of_getElem? (i := 5) rfl)
theorem d_law_1100 : decode code 1100 = .ok (.iadd, 1) := dla_19 (1100, .iadd, 1) (List.mem_of_getElem? (i := 6) rfl)
theorem d_law_1101 : decode code 1101 = .ok (.iaload, 1) := dla_19 (1101, .iaload, 1) (List.mem_of_getElem? (i := 7) rfl)
theorem d_law_1102 : decode code 1102 = .ok (.invokevirtual 141, 3) := dla_19 (1102, .invokevirtual 141, 3) (List.mem_of_getElem? (i := 8) rfl)
theorem d_law_1105 : decode code 1105 = .ok (.pop, 1) := dla_19 (1105, .pop, 1) (List.mem_of_getElem? (i := 9) rfl)
theorem d_law_1106 : decode code 1106 = .ok (.aload_n 2, 1) := dla_19 (1106, .aload_n 2, 1) (List.mem_of_getElem? (i := 10) rfl)
theorem d_law_1107 : decode code 1107 = .ok (.aload_n 0, 1) := dla_19 (1107, .aload_n 0, 1) (List.mem_of_getElem? (i := 11) rfl)
theorem d_law_1108 : decode code 1108 = .ok (.iload_n 3, 1) := dla_19 (1108, .iload_n 3, 1) (List.mem_of_getElem? (i := 12) rfl)
theorem d_law_1109 : decode code 1109 = .ok (.iconst 1, 1) := dla_19 (1109, .iconst 1, 1) (List.mem_of_getElem? (i := 13) rfl)
theorem d_law_1110 : decode code 1110 = .ok (.iadd, 1) := dla_19 (1110, .iadd, 1) (List.mem_of_getElem? (i := 14) rfl)
theorem d_law_1111 : decode code 1111 = .ok (.iaload, 1) := dla_19 (1111, .iaload, 1) (List.mem_of_getElem? (i := 15) rfl)
theorem d_law_1112 : decode code 1112 = .ok (.invokevirtual 144, 3) := dla_19 (1112, .invokevirtual 144, 3) (List.mem_of_getElem? (i := 16) rfl)
theorem d_law_1115 : decode code 1115 = .ok (.pop, 1) := dla_19 (1115, .pop, 1) (List.mem_of_getElem? (i := 17) rfl)
theorem d_law_1116 : decode code 1116 = .ok (.goto 26, 3) := dla_19 (1116, .goto 26, 3) (List.mem_of_getElem? (i := 18) rfl)
theorem d_law_1119 : decode code 1119 = .ok (.aload_n 1, 1) := dla_19 (1119, .aload_n 1, 1) (List.mem_of_getElem? (i := 19) rfl)
theorem d_law_1120 : decode code 1120 = .ok (.aload_n 0, 1) := dla_19 (1120, .aload_n 0, 1) (List.mem_of_getElem? (i := 20) rfl)
theorem d_law_1121 : decode code 1121 = .ok (.iload_n 3, 1) := dla_19 (1121, .iload_n 3, 1) (List.mem_of_getElem? (i := 21) rfl)
theorem d_law_1122 : decode code 1122 = .ok (.iconst 1, 1) := dla_19 (1122, .iconst 1, 1) (List.mem_of_getElem? (i := 22) rfl)
theorem d_law_1123 : decode code 1123 = .ok (.iadd, 1) := dla_19 (1123, .iadd, 1) (List.mem_of_getElem? (i := 23) rfl)
theorem d_law_1124 : decode code 1124 = .ok (.iaload, 1) := dla_19 (1124, .iaload, 1) (List.mem_of_getElem? (i := 24) rfl)
theorem d_law_1125 : decode code 1125 = .ok (.invokevirtual 145, 3) := dla_19 (1125, .invokevirtual 145, 3) (List.mem_of_getElem? (i := 25) rfl)
theorem d_law_1128 : decode code 1128 = .ok (.pop, 1) := dla_19 (1128, .pop, 1) (List.mem_of_getElem? (i := 26) rfl)
theorem d_law_1129 : decode code 1129 = .ok (.aload_n 2, 1) := dla_19 (1129, .aload_n 2, 1) (List.mem_of_getElem? (i := 27) rfl)
theorem d_law_1130 : decode code 1130 = .ok (.aload_n 0, 1) := dla_19 (1130, .aload_n 0, 1) (List.mem_of_getElem? (i := 28) rfl)
theorem d_law_1131 : decode code 1131 = .ok (.iload_n 3, 1) := dla_19 (1131, .iload_n 3, 1) (List.mem_of_getElem? (i := 29) rfl)
theorem d_law_1132 : decode code 1132 = .ok (.iconst 1, 1) := dla_19 (1132, .iconst 1, 1) (List.mem_of_getElem? (i := 30) rfl)
theorem d_law_1133 : decode code 1133 = .ok (.iadd, 1) := dla_19 (1133, .iadd, 1) (List.mem_of_getElem? (i := 31) rfl)
theorem d_law_1134 : decode code 1134 = .ok (.iaload, 1) := dla_19 (1134, .iaload, 1) (List.mem_of_getElem? (i := 32) rfl)
theorem d_law_1135 : decode code 1135 = .ok (.invokevirtual 148, 3) := dla_19 (1135, .invokevirtual 148, 3) (List.mem_of_getElem? (i := 33) rfl)
theorem d_law_1138 : decode code 1138 = .ok (.pop, 1) := dla_19 (1138, .pop, 1) (List.mem_of_getElem? (i := 34) rfl)
theorem d_law_1139 : decode code 1139 = .ok (.goto 3, 3) := dla_19 (1139, .goto 3, 3) (List.mem_of_getElem? (i := 35) rfl)
theorem d_law_1142 : decode code 1142 = .ok (.iinc 3 6, 3) := dla_19 (1142, .iinc 3 6, 3) (List.mem_of_getElem? (i := 36) rfl)
theorem d_law_1145 : decode code 1145 = .ok (.goto (-1127), 3) := dla_19 (1145, .goto (-1127), 3) (List.mem_of_getElem? (i := 37) rfl)
theorem d_law_1148 : decode code 1148 = .ok (.iconst 1, 1) := dla_19 (1148, .iconst 1, 1) (List.mem_of_getElem? (i := 38) rfl)
theorem d_law_1149 : decode code 1149 = .ok (.ireturn, 1) := dla_19 (1149, .ireturn, 1) (List.mem_of_getElem? (i := 39) rfl)
end MG6x1
section MG6x2
def C_law_0 (xs : Nat → Int32) (Lx : Nat) (K : Int32 → gM → gL → Nat → Option Int32) (i : Int32) (M : gM) (L : gL) (ld : Nat) : Option Int32 :=
  (if ((i + 1) : Int32) < 0 ∨ Lx ≤ ((i + 1) : Int32).toNatClampNeg then none else (if ((i + 2) : Int32) < 0 ∨ Lx ≤ ((i + 2) : Int32).toNatClampNeg then none else (if ((i + 3) : Int32) < 0 ∨ Lx ≤ ((i + 3) : Int32).toNatClampNeg then none else (if ((i + 4) : Int32) < 0 ∨ Lx ≤ ((i + 4) : Int32).toNatClampNeg then none else (if ((i + 5) : Int32) < 0 ∨ Lx ≤ ((i + 5) : Int32).toNatClampNeg then none else bI2 (F_Main_feed (xs ((i + 1) : Int32).toNatClampNeg) (xs ((i + 2) : Int32).toNatClampNeg) (xs ((i + 3) : Int32).toNatClampNeg) (xs ((i + 4) : Int32).toNatClampNeg) (xs ((i + 5) : Int32).toNatClampNeg) M) (fun r7 M8 => (if ((i + 1) : Int32) < 0 ∨ Lx ≤ ((i + 1) : Int32).toNatClampNeg then none else (if ((i + 2) : Int32) < 0 ∨ Lx ≤ ((i + 2) : Int32).toNatClampNeg then none else (if ((i + 3) : Int32) < 0 ∨ Lx ≤ ((i + 3) : Int32).toNatClampNeg then none else (if ((i + 4) : Int32) < 0 ∨ Lx ≤ ((i + 4) : Int32).toNatClampNeg then none else (if ((i + 5) : Int32) < 0 ∨ Lx ≤ ((i + 5) : Int32).toNatClampNeg then none else bI2 (F_Mod_feed (xs ((i + 1) : Int32).toNatClampNeg) (xs ((i + 2) : Int32).toNatClampNeg) (xs ((i + 3) : Int32).toNatClampNeg) (xs ((i + 4) : Int32).toNatClampNeg) (xs ((i + 5) : Int32).toNatClampNeg) M8) (fun r15 M16 => nmI (i + 6) (fun x17 => K x17 M16 L ld)))))))))))))
set_option maxHeartbeats 4000000 in
set_option maxRecDepth 20000 in
theorem c_law_0 {l : Launch} {p : Program} {e : Env} {s : State} {m : MethodId} {below : List Frame} {meth : Method} {c : Code} {bs Lx : Nat} {xs : Nat → Int32} {D : va_G} {cA : Nat → ClassId} (C : ZC p s m meth c bs Lx xs D cA) (K : Int32 → gM → gL → Nat → Option Int32) (hK : ∀ (i : Int32) (M : gM) (L : gL) (ld : Nat), isLa ld → K i M L ld = some 1 → Zw l p e s m below meth c bs Lx xs D cA 447 23912 18 [(0, .ref bs), (1, .ref (s.heap.size + 0)), (2, .ref (s.heap.size + 401)), (3, .int i)] [] M L (rf ld)) {i : Int32} {M : gM} {L : gL} {ld : Nat} (hld : isLa ld) (h : C_law_0 xs Lx K i M L ld = some 1) : Zw l p e s m below meth c bs Lx xs D cA 447 23912 176 [(0, .ref bs), (1, .ref (s.heap.size + 0)), (2, .ref (s.heap.size + 401)), (3, .int i)] [] M L (rf ld) := by
  unfold C_law_0 at h
  refine z_aload_n C (pc1 := 177) 1 d_law_176 rfl rfl rfl ?_
  refine z_aload_n C (pc1 := 178) 0 d_law_177 rfl rfl rfl ?_
  refine z_iload_n C (pc1 := 179) 3 d_law_178 rfl rfl rfl ?_
  refine z_iconst C (pc1 := 180) (v := 1) d_law_179 rfl (by decide) ?_
  refine z_iadd C (pc1 := 181) d_law_180 rfl ?_
  obtain ⟨g1, h⟩ := gdn h
  refine z_sld C (pc1 := 182) d_law_181 rfl g1 ?_
  refine z_aload_n C (pc1 := 183) 0 d_law_182 rfl rfl rfl ?_
  refine z_iload_n C (pc1 := 184) 3 d_law_183 rfl rfl rfl ?_
  refine z_iconst C (pc1 := 185) (v := 2) d_law_184 rfl (by decide) ?_
  refine z_iadd C (pc1 := 186) d_law_185 rfl ?_
  obtain ⟨g2, h⟩ := gdn h
  refine z_sld C (pc1 := 187) d_law_186 rfl g2 ?_
  refine z_aload_n C (pc1 := 188) 0 d_law_187 rfl rfl rfl ?_
  refine z_iload_n C (pc1 := 189) 3 d_law_188 rfl rfl rfl ?_
  refine z_iconst C (pc1 := 190) (v := 3) d_law_189 rfl (by decide) ?_
  refine z_iadd C (pc1 := 191) d_law_190 rfl ?_
  obtain ⟨g3, h⟩ := gdn h
  refine z_sld C (pc1 := 192) d_law_191 rfl g3 ?_
  refine z_aload_n C (pc1 := 193) 0 d_law_192 rfl rfl rfl ?_
  refine z_iload_n C (pc1 := 194) 3 d_law_193 rfl rfl rfl ?_
  refine z_iconst C (pc1 := 195) (v := 4) d_law_194 rfl (by decide) ?_
  refine z_iadd C (pc1 := 196) d_law_195 rfl ?_
  obtain ⟨g4, h⟩ := gdn h
  refine z_sld C (pc1 := 197) d_law_196 rfl g4 ?_
  refine z_aload_n C (pc1 := 198) 0 d_law_197 rfl rfl rfl ?_
  refine z_iload_n C (pc1 := 199) 3 d_law_198 rfl rfl rfl ?_
  refine z_iconst C (pc1 := 200) (v := 5) d_law_199 rfl (by decide) ?_
  refine z_iadd C (pc1 := 201) d_law_200 rfl ?_
  obtain ⟨g5, h⟩ := gdn h
  refine z_sld C (pc1 := 202) d_law_201 rfl g5 ?_
  obtain ⟨r7, M8, hq6, h⟩ := bnd2 h
  refine z_callV C (E' := (0, 0, 447)) (pc1 := 205) (As := [.int (xs ((i + 1) : Int32).toNatClampNeg), .int (xs ((i + 2) : Int32).toNatClampNeg), .int (xs ((i + 3) : Int32).toNatClampNeg), .int (xs ((i + 4) : Int32).toNatClampNeg), .int (xs ((i + 5) : Int32).toNatClampNeg)]) (rest := []) d_law_202 rfl mo_Law0_13 mi_Main_feed mv_Main_feed sh_0 (by decide) rfl ⟨Nat.le_of_ble_eq_true rfl, Nat.le_of_ble_eq_true rfl⟩ rfl rfl (Nat.le_of_ble_eq_true rfl) ⟨Nat.le_of_ble_eq_true rfl, Nat.le_of_ble_eq_true rfl⟩ rfl ?_
  refine f_Main_feed hld hq6 ?_
  show Zw l p e s m below meth c bs Lx xs D cA 447 23912 205 [(0, .ref bs), (1, .ref (s.heap.size + 0)), (2, .ref (s.heap.size + 401)), (3, .int i)] [.int r7] M8 L (rf ld)
  refine z_pop C (pc1 := 206) d_law_205 rfl rfl ?_
  refine z_aload_n C (pc1 := 207) 2 d_law_206 rfl rfl rfl ?_
  refine z_aload_n C (pc1 := 208) 0 d_law_207 rfl rfl rfl ?_
  refine z_iload_n C (pc1 := 209) 3 d_law_208 rfl rfl rfl ?_
  refine z_iconst C (pc1 := 210) (v := 1) d_law_209 rfl (by decide) ?_
  refine z_iadd C (pc1 := 211) d_law_210 rfl ?_
  obtain ⟨g9, h⟩ := gdn h
  refine z_sld C (pc1 := 212) d_law_211 rfl g9 ?_
  refine z_aload_n C (pc1 := 213) 0 d_law_212 rfl rfl rfl ?_
  refine z_iload_n C (pc1 := 214) 3 d_law_213 rfl rfl rfl ?_
  refine z_iconst C (pc1 := 215) (v := 2) d_law_214 rfl (by decide) ?_
  refine z_iadd C (pc1 := 216) d_law_215 rfl ?_
  obtain ⟨g10, h⟩ := gdn h
  refine z_sld C (pc1 := 217) d_law_216 rfl g10 ?_
  refine z_aload_n C (pc1 := 218) 0 d_law_217 rfl rfl rfl ?_
  refine z_iload_n C (pc1 := 219) 3 d_law_218 rfl rfl rfl ?_
  refine z_iconst C (pc1 := 220) (v := 3) d_law_219 rfl (by decide) ?_
  refine z_iadd C (pc1 := 221) d_law_220 rfl ?_
  obtain ⟨g11, h⟩ := gdn h
  refine z_sld C (pc1 := 222) d_law_221 rfl g11 ?_
  refine z_aload_n C (pc1 := 223) 0 d_law_222 rfl rfl rfl ?_
  refine z_iload_n C (pc1 := 224) 3 d_law_223 rfl rfl rfl ?_
  refine z_iconst C (pc1 := 225) (v := 4) d_law_224 rfl (by decide) ?_
  refine z_iadd C (pc1 := 226) d_law_225 rfl ?_
  obtain ⟨g12, h⟩ := gdn h
  refine z_sld C (pc1 := 227) d_law_226 rfl g12 ?_
  refine z_aload_n C (pc1 := 228) 0 d_law_227 rfl rfl rfl ?_
  refine z_iload_n C (pc1 := 229) 3 d_law_228 rfl rfl rfl ?_
  refine z_iconst C (pc1 := 230) (v := 5) d_law_229 rfl (by decide) ?_
  refine z_iadd C (pc1 := 231) d_law_230 rfl ?_
  obtain ⟨g13, h⟩ := gdn h
  refine z_sld C (pc1 := 232) d_law_231 rfl g13 ?_
  obtain ⟨r15, M16, hq14, h⟩ := bnd2 h
  refine z_callV C (E' := (0, 0, 447)) (pc1 := 235) (As := [.int (xs ((i + 1) : Int32).toNatClampNeg), .int (xs ((i + 2) : Int32).toNatClampNeg), .int (xs ((i + 3) : Int32).toNatClampNeg), .int (xs ((i + 4) : Int32).toNatClampNeg), .int (xs ((i + 5) : Int32).toNatClampNeg)]) (rest := []) d_law_232 rfl mo_Law0_17 mi_Mod_feed mv_Mod_feed sh_401 (by decide) rfl ⟨Nat.le_of_ble_eq_true rfl, Nat.le_of_ble_eq_true rfl⟩ rfl rfl (Nat.le_of_ble_eq_true rfl) ⟨Nat.le_of_ble_eq_true rfl, Nat.le_of_ble_eq_true rfl⟩ rfl ?_
  refine f_Mod_feed hld hq14 ?_
  show Zw l p e s m below meth c bs Lx xs D cA 447 23912 235 [(0, .ref bs), (1, .ref (s.heap.size + 0)), (2, .ref (s.heap.size + 401)), (3, .int i)] [.int r15] M16 L (rf ld)
  refine z_pop C (pc1 := 236) d_law_235 rfl rfl ?_
  refine z_goto C (tgt := 1142) d_law_236 (by decide) ?_
  obtain ⟨x17, ex17, h⟩ := ltI h
  refine z_iinc C (pc1 := 1145) (v := x17) (lv' := [(0, .ref bs), (1, .ref (s.heap.size + 0)), (2, .ref (s.heap.size + 401)), (3, .int x17)]) d_law_1142 rfl 3 rfl (by rw [ex17]; rfl) (by decide) [1, 2, 3, 0] rfl ?_
  refine z_goto C (tgt := 18) d_law_1145 (by decide) ?_
  exact hK _ _ _ _ hld h
def C_law_1 (xs : Nat → Int32) (Lx : Nat) (K : Int32 → gM → gL → Nat → Option Int32) (i : Int32) (M : gM) (L : gL) (ld : Nat) : Option Int32 :=
  (if ((i + 1) : Int32) < 0 ∨ Lx ≤ ((i + 1) : Int32).toNatClampNeg then none else bI2 (F_Main_back (xs ((i + 1) : Int32).toNatClampNeg) M) (fun r3 M4 => (if ((i + 1) : Int32) < 0 ∨ Lx ≤ ((i + 1) : Int32).toNatClampNeg then none else bI2 (F_Mod_back (xs ((i + 1) : Int32).toNatClampNeg) M4) (fun r7 M8 => nmI (i + 6) (fun x9 => K x9 M8 L ld)))))
set_option maxHeartbeats 4000000 in
set_option maxRecDepth 20000 in
theorem c_law_1 {l : Launch} {p : Program} {e : Env} {s : State} {m : MethodId} {below : List Frame} {meth : Method} {c : Code} {bs Lx : Nat} {xs : Nat → Int32} {D : va_G} {cA : Nat → ClassId} (C : ZC p s m meth c bs Lx xs D cA) (K : Int32 → gM → gL → Nat → Option Int32) (hK : ∀ (i : Int32) (M : gM) (L : gL) (ld : Nat), isLa ld → K i M L ld = some 1 → Zw l p e s m below meth c bs Lx xs D cA 447 23912 18 [(0, .ref bs), (1, .ref (s.heap.size + 0)), (2, .ref (s.heap.size + 401)), (3, .int i)] [] M L (rf ld)) {i : Int32} {M : gM} {L : gL} {ld : Nat} (hld : isLa ld) (h : C_law_1 xs Lx K i M L ld = some 1) : Zw l p e s m below meth c bs Lx xs D cA 447 23912 239 [(0, .ref bs), (1, .ref (s.heap.size + 0)), (2, .ref (s.heap.size + 401)), (3, .int i)] [] M L (rf ld) := by
  unfold C_law_1 at h
  refine z_aload_n C (pc1 := 240) 1 d_law_239 rfl rfl rfl ?_
  refine z_aload_n C (pc1 := 241) 0 d_law_240 rfl rfl rfl ?_
  refine z_iload_n C (pc1 := 242) 3 d_law_241 rfl rfl rfl ?_
  refine z_iconst C (pc1 := 243) (v := 1) d_law_242 rfl (by decide) ?_
  refine z_iadd C (pc1 := 244) d_law_243 rfl ?_
  obtain ⟨g1, h⟩ := gdn h
  refine z_sld C (pc1 := 245) d_law_244 rfl g1 ?_
  obtain ⟨r3, M4, hq2, h⟩ := bnd2 h
  refine z_callV C (E' := (0, 0, 447)) (pc1 := 248) (As := [.int (xs ((i + 1) : Int32).toNatClampNeg)]) (rest := []) d_law_245 rfl mo_Law0_18 mi_Main_back mv_Main_back sh_0 (by decide) rfl ⟨Nat.le_of_ble_eq_true rfl, Nat.le_of_ble_eq_true rfl⟩ rfl rfl (Nat.le_of_ble_eq_true rfl) ⟨Nat.le_of_ble_eq_true rfl, Nat.le_of_ble_eq_true rfl⟩ rfl ?_
  refine f_Main_back hld hq2 ?_
  show Zw l p e s m below meth c bs Lx xs D cA 447 23912 248 [(0, .ref bs), (1, .ref (s.heap.size + 0)), (2, .ref (s.heap.size + 401)), (3, .int i)] [.int r3] M4 L (rf ld)
  refine z_pop C (pc1 := 249) d_law_248 rfl rfl ?_
  refine z_aload_n C (pc1 := 250) 2 d_law_249 rfl rfl rfl ?_
  refine z_aload_n C (pc1 := 251) 0 d_law_250 rfl rfl rfl ?_
  refine z_iload_n C (pc1 := 252) 3 d_law_251 rfl rfl rfl ?_
  refine z_iconst C (pc1 := 253) (v := 1) d_law_252 rfl (by decide) ?_
  refine z_iadd C (pc1 := 254) d_law_253 rfl ?_
  obtain ⟨g5, h⟩ := gdn h
  refine z_sld C (pc1 := 255) d_law_254 rfl g5 ?_
  obtain ⟨r7, M8, hq6, h⟩ := bnd2 h
  refine z_callV C (E' := (0, 0, 447)) (pc1 := 258) (As := [.int (xs ((i + 1) : Int32).toNatClampNeg)]) (rest := []) d_law_255 rfl mo_Law0_22 mi_Mod_back mv_Mod_back sh_401 (by decide) rfl ⟨Nat.le_of_ble_eq_true rfl, Nat.le_of_ble_eq_true rfl⟩ rfl rfl (Nat.le_of_ble_eq_true rfl) ⟨Nat.le_of_ble_eq_true rfl, Nat.le_of_ble_eq_true rfl⟩ rfl ?_
  refine f_Mod_back hld hq6 ?_
  show Zw l p e s m below meth c bs Lx xs D cA 447 23912 258 [(0, .ref bs), (1, .ref (s.heap.size + 0)), (2, .ref (s.heap.size + 401)), (3, .int i)] [.int r7] M8 L (rf ld)
  refine z_pop C (pc1 := 259) d_law_258 rfl rfl ?_
  refine z_goto C (tgt := 1142) d_law_259 (by decide) ?_
  obtain ⟨x9, ex9, h⟩ := ltI h
  refine z_iinc C (pc1 := 1145) (v := x9) (lv' := [(0, .ref bs), (1, .ref (s.heap.size + 0)), (2, .ref (s.heap.size + 401)), (3, .int x9)]) d_law_1142 rfl 3 rfl (by rw [ex9]; rfl) (by decide) [1, 2, 3, 0] rfl ?_
  refine z_goto C (tgt := 18) d_law_1145 (by decide) ?_
  exact hK _ _ _ _ hld h
def C_law_2 (xs : Nat → Int32) (Lx : Nat) (K : Int32 → gM → gL → Nat → Option Int32) (i : Int32) (M : gM) (L : gL) (ld : Nat) : Option Int32 :=
  bI4 (F_Main_read ld M L) (fun r2 M3 L4 ld5 => bI3 (F_Mod_read M3 L4) (fun r8 M9 L10 => nmI (i + 6) (fun x11 => K x11 M9 L10 ld5)))
set_option maxHeartbeats 4000000 in
set_option maxRecDepth 20000 in
theorem c_law_2 {l : Launch} {p : Program} {e : Env} {s : State} {m : MethodId} {below : List Frame} {meth : Method} {c : Code} {bs Lx : Nat} {xs : Nat → Int32} {D : va_G} {cA : Nat → ClassId} (C : ZC p s m meth c bs Lx xs D cA) (K : Int32 → gM → gL → Nat → Option Int32) (hK : ∀ (i : Int32) (M : gM) (L : gL) (ld : Nat), isLa ld → K i M L ld = some 1 → Zw l p e s m below meth c bs Lx xs D cA 447 23912 18 [(0, .ref bs), (1, .ref (s.heap.size + 0)), (2, .ref (s.heap.size + 401)), (3, .int i)] [] M L (rf ld)) {i : Int32} {M : gM} {L : gL} {ld : Nat} (hld : isLa ld) (h : C_law_2 xs Lx K i M L ld = some 1) : Zw l p e s m below meth c bs Lx xs D cA 447 23912 262 [(0, .ref bs), (1, .ref (s.heap.size + 0)), (2, .ref (s.heap.size + 401)), (3, .int i)] [] M L (rf ld) := by
  unfold C_law_2 at h
  refine z_aload_n C (pc1 := 263) 1 d_law_262 rfl rfl rfl ?_
  obtain ⟨r2, M3, L4, ld5, hq1, h⟩ := bnd4 h
  refine z_callV C (E' := (0, 0, 447)) (pc1 := 266) (As := []) (rest := []) d_law_263 rfl mo_Law0_23 mi_Main_read mv_Main_read sh_0 (by decide) rfl ⟨Nat.le_of_ble_eq_true rfl, Nat.le_of_ble_eq_true rfl⟩ rfl rfl (Nat.le_of_ble_eq_true rfl) ⟨Nat.le_of_ble_eq_true rfl, Nat.le_of_ble_eq_true rfl⟩ rfl ?_
  refine f_Main_read hld hq1 (fun hld6 => ?_)
  show Zw l p e s m below meth c bs Lx xs D cA 447 23912 266 [(0, .ref bs), (1, .ref (s.heap.size + 0)), (2, .ref (s.heap.size + 401)), (3, .int i)] [.int r2] M3 L4 (rf ld5)
  refine z_pop C (pc1 := 267) d_law_266 rfl rfl ?_
  refine z_aload_n C (pc1 := 268) 2 d_law_267 rfl rfl rfl ?_
  obtain ⟨r8, M9, L10, hq7, h⟩ := bnd3 h
  refine z_callV C (E' := (0, 0, 447)) (pc1 := 271) (As := []) (rest := []) d_law_268 rfl mo_Law0_27 mi_Mod_read mv_Mod_read sh_401 (by decide) rfl ⟨Nat.le_of_ble_eq_true rfl, Nat.le_of_ble_eq_true rfl⟩ rfl rfl (Nat.le_of_ble_eq_true rfl) ⟨Nat.le_of_ble_eq_true rfl, Nat.le_of_ble_eq_true rfl⟩ rfl ?_
  refine f_Mod_read hld6 hq7 ?_
  show Zw l p e s m below meth c bs Lx xs D cA 447 23912 271 [(0, .ref bs), (1, .ref (s.heap.size + 0)), (2, .ref (s.heap.size + 401)), (3, .int i)] [.int r8] M9 L10 (rf ld5)
  refine z_pop C (pc1 := 272) d_law_271 rfl rfl ?_
  refine z_goto C (tgt := 1142) d_law_272 (by decide) ?_
  obtain ⟨x11, ex11, h⟩ := ltI h
  refine z_iinc C (pc1 := 1145) (v := x11) (lv' := [(0, .ref bs), (1, .ref (s.heap.size + 0)), (2, .ref (s.heap.size + 401)), (3, .int x11)]) d_law_1142 rfl 3 rfl (by rw [ex11]; rfl) (by decide) [1, 2, 3, 0] rfl ?_
  refine z_goto C (tgt := 18) d_law_1145 (by decide) ?_
  exact hK _ _ _ _ hld6 h
def C_law_3 (xs : Nat → Int32) (Lx : Nat) (K : Int32 → gM → gL → Nat → Option Int32) (i : Int32) (M : gM) (L : gL) (ld : Nat) : Option Int32 :=
  bI (F_Main_place M) (fun r2 => bI (F_Mod_place M) (fun r4 => nmI (i + 6) (fun x5 => K x5 M L ld)))
set_option maxHeartbeats 4000000 in
set_option maxRecDepth 20000 in
theorem c_law_3 {l : Launch} {p : Program} {e : Env} {s : State} {m : MethodId} {below : List Frame} {meth : Method} {c : Code} {bs Lx : Nat} {xs : Nat → Int32} {D : va_G} {cA : Nat → ClassId} (C : ZC p s m meth c bs Lx xs D cA) (K : Int32 → gM → gL → Nat → Option Int32) (hK : ∀ (i : Int32) (M : gM) (L : gL) (ld : Nat), isLa ld → K i M L ld = some 1 → Zw l p e s m below meth c bs Lx xs D cA 447 23912 18 [(0, .ref bs), (1, .ref (s.heap.size + 0)), (2, .ref (s.heap.size + 401)), (3, .int i)] [] M L (rf ld)) {i : Int32} {M : gM} {L : gL} {ld : Nat} (hld : isLa ld) (h : C_law_3 xs Lx K i M L ld = some 1) : Zw l p e s m below meth c bs Lx xs D cA 447 23912 275 [(0, .ref bs), (1, .ref (s.heap.size + 0)), (2, .ref (s.heap.size + 401)), (3, .int i)] [] M L (rf ld) := by
  unfold C_law_3 at h
  refine z_aload_n C (pc1 := 276) 1 d_law_275 rfl rfl rfl ?_
  obtain ⟨r2, hq1, h⟩ := bnd h
  refine z_callV C (E' := (0, 0, 447)) (pc1 := 279) (As := []) (rest := []) d_law_276 rfl mo_Law0_28 mi_Main_place mv_Main_place sh_0 (by decide) rfl ⟨Nat.le_of_ble_eq_true rfl, Nat.le_of_ble_eq_true rfl⟩ rfl rfl (Nat.le_of_ble_eq_true rfl) ⟨Nat.le_of_ble_eq_true rfl, Nat.le_of_ble_eq_true rfl⟩ rfl ?_
  refine f_Main_place hld hq1 ?_
  show Zw l p e s m below meth c bs Lx xs D cA 447 23912 279 [(0, .ref bs), (1, .ref (s.heap.size + 0)), (2, .ref (s.heap.size + 401)), (3, .int i)] [.int r2] M L (rf ld)
  refine z_pop C (pc1 := 280) d_law_279 rfl rfl ?_
  refine z_aload_n C (pc1 := 281) 2 d_law_280 rfl rfl rfl ?_
  obtain ⟨r4, hq3, h⟩ := bnd h
  refine z_callV C (E' := (0, 0, 447)) (pc1 := 284) (As := []) (rest := []) d_law_281 rfl mo_Law0_31 mi_Mod_place mv_Mod_place sh_401 (by decide) rfl ⟨Nat.le_of_ble_eq_true rfl, Nat.le_of_ble_eq_true rfl⟩ rfl rfl (Nat.le_of_ble_eq_true rfl) ⟨Nat.le_of_ble_eq_true rfl, Nat.le_of_ble_eq_true rfl⟩ rfl ?_
  refine f_Mod_place hld hq3 ?_
  show Zw l p e s m below meth c bs Lx xs D cA 447 23912 284 [(0, .ref bs), (1, .ref (s.heap.size + 0)), (2, .ref (s.heap.size + 401)), (3, .int i)] [.int r4] M L (rf ld)
  refine z_pop C (pc1 := 285) d_law_284 rfl rfl ?_
  refine z_goto C (tgt := 1142) d_law_285 (by decide) ?_
  obtain ⟨x5, ex5, h⟩ := ltI h
  refine z_iinc C (pc1 := 1145) (v := x5) (lv' := [(0, .ref bs), (1, .ref (s.heap.size + 0)), (2, .ref (s.heap.size + 401)), (3, .int x5)]) d_law_1142 rfl 3 rfl (by rw [ex5]; rfl) (by decide) [1, 2, 3, 0] rfl ?_
  refine z_goto C (tgt := 18) d_law_1145 (by decide) ?_
  exact hK _ _ _ _ hld h
def C_law_4 (xs : Nat → Int32) (Lx : Nat) (K : Int32 → gM → gL → Nat → Option Int32) (i : Int32) (M : gM) (L : gL) (ld : Nat) : Option Int32 :=
  (if ((i + 1) : Int32) < 0 ∨ Lx ≤ ((i + 1) : Int32).toNatClampNeg then none else (if ((i + 2) : Int32) < 0 ∨ Lx ≤ ((i + 2) : Int32).toNatClampNeg then none else bI (F_Main_food ld (xs ((i + 1) : Int32).toNatClampNeg) (xs ((i + 2) : Int32).toNatClampNeg) M) (fun r4 => (if ((i + 1) : Int32) < 0 ∨ Lx ≤ ((i + 1) : Int32).toNatClampNeg then none else (if ((i + 2) : Int32) < 0 ∨ Lx ≤ ((i + 2) : Int32).toNatClampNeg then none else bI (F_Mod_food (xs ((i + 1) : Int32).toNatClampNeg) (xs ((i + 2) : Int32).toNatClampNeg) M) (fun r8 => nmI (i + 6) (fun x9 => K x9 M L ld)))))))
set_option maxHeartbeats 4000000 in
set_option maxRecDepth 20000 in
theorem c_law_4 {l : Launch} {p : Program} {e : Env} {s : State} {m : MethodId} {below : List Frame} {meth : Method} {c : Code} {bs Lx : Nat} {xs : Nat → Int32} {D : va_G} {cA : Nat → ClassId} (C : ZC p s m meth c bs Lx xs D cA) (K : Int32 → gM → gL → Nat → Option Int32) (hK : ∀ (i : Int32) (M : gM) (L : gL) (ld : Nat), isLa ld → K i M L ld = some 1 → Zw l p e s m below meth c bs Lx xs D cA 447 23912 18 [(0, .ref bs), (1, .ref (s.heap.size + 0)), (2, .ref (s.heap.size + 401)), (3, .int i)] [] M L (rf ld)) {i : Int32} {M : gM} {L : gL} {ld : Nat} (hld : isLa ld) (h : C_law_4 xs Lx K i M L ld = some 1) : Zw l p e s m below meth c bs Lx xs D cA 447 23912 288 [(0, .ref bs), (1, .ref (s.heap.size + 0)), (2, .ref (s.heap.size + 401)), (3, .int i)] [] M L (rf ld) := by
  unfold C_law_4 at h
  refine z_aload_n C (pc1 := 289) 1 d_law_288 rfl rfl rfl ?_
  refine z_aload_n C (pc1 := 290) 0 d_law_289 rfl rfl rfl ?_
  refine z_iload_n C (pc1 := 291) 3 d_law_290 rfl rfl rfl ?_
  refine z_iconst C (pc1 := 292) (v := 1) d_law_291 rfl (by decide) ?_
  refine z_iadd C (pc1 := 293) d_law_292 rfl ?_
  obtain ⟨g1, h⟩ := gdn h
  refine z_sld C (pc1 := 294) d_law_293 rfl g1 ?_
  refine z_aload_n C (pc1 := 295) 0 d_law_294 rfl rfl rfl ?_
  refine z_iload_n C (pc1 := 296) 3 d_law_295 rfl rfl rfl ?_
  refine z_iconst C (pc1 := 297) (v := 2) d_law_296 rfl (by decide) ?_
  refine z_iadd C (pc1 := 298) d_law_297 rfl ?_
  obtain ⟨g2, h⟩ := gdn h
  refine z_sld C (pc1 := 299) d_law_298 rfl g2 ?_
  obtain ⟨r4, hq3, h⟩ := bnd h
  refine z_callV C (E' := (0, 0, 447)) (pc1 := 302) (As := [.int (xs ((i + 1) : Int32).toNatClampNeg), .int (xs ((i + 2) : Int32).toNatClampNeg)]) (rest := []) d_law_299 rfl mo_Law0_32 mi_Main_food mv_Main_food sh_0 (by decide) rfl ⟨Nat.le_of_ble_eq_true rfl, Nat.le_of_ble_eq_true rfl⟩ rfl rfl (Nat.le_of_ble_eq_true rfl) ⟨Nat.le_of_ble_eq_true rfl, Nat.le_of_ble_eq_true rfl⟩ rfl ?_
  refine f_Main_food hld hq3 ?_
  show Zw l p e s m below meth c bs Lx xs D cA 447 23912 302 [(0, .ref bs), (1, .ref (s.heap.size + 0)), (2, .ref (s.heap.size + 401)), (3, .int i)] [.int r4] M L (rf ld)
  refine z_pop C (pc1 := 303) d_law_302 rfl rfl ?_
  refine z_aload_n C (pc1 := 304) 2 d_law_303 rfl rfl rfl ?_
  refine z_aload_n C (pc1 := 305) 0 d_law_304 rfl rfl rfl ?_
  refine z_iload_n C (pc1 := 306) 3 d_law_305 rfl rfl rfl ?_
  refine z_iconst C (pc1 := 307) (v := 1) d_law_306 rfl (by decide) ?_
  refine z_iadd C (pc1 := 308) d_law_307 rfl ?_
  obtain ⟨g5, h⟩ := gdn h
  refine z_sld C (pc1 := 309) d_law_308 rfl g5 ?_
  refine z_aload_n C (pc1 := 310) 0 d_law_309 rfl rfl rfl ?_
  refine z_iload_n C (pc1 := 311) 3 d_law_310 rfl rfl rfl ?_
  refine z_iconst C (pc1 := 312) (v := 2) d_law_311 rfl (by decide) ?_
  refine z_iadd C (pc1 := 313) d_law_312 rfl ?_
  obtain ⟨g6, h⟩ := gdn h
  refine z_sld C (pc1 := 314) d_law_313 rfl g6 ?_
  obtain ⟨r8, hq7, h⟩ := bnd h
  refine z_callV C (E' := (0, 0, 447)) (pc1 := 317) (As := [.int (xs ((i + 1) : Int32).toNatClampNeg), .int (xs ((i + 2) : Int32).toNatClampNeg)]) (rest := []) d_law_314 rfl mo_Law0_36 mi_Mod_food mv_Mod_food sh_401 (by decide) rfl ⟨Nat.le_of_ble_eq_true rfl, Nat.le_of_ble_eq_true rfl⟩ rfl rfl (Nat.le_of_ble_eq_true rfl) ⟨Nat.le_of_ble_eq_true rfl, Nat.le_of_ble_eq_true rfl⟩ rfl ?_
  refine f_Mod_food hld hq7 ?_
  show Zw l p e s m below meth c bs Lx xs D cA 447 23912 317 [(0, .ref bs), (1, .ref (s.heap.size + 0)), (2, .ref (s.heap.size + 401)), (3, .int i)] [.int r8] M L (rf ld)
  refine z_pop C (pc1 := 318) d_law_317 rfl rfl ?_
  refine z_goto C (tgt := 1142) d_law_318 (by decide) ?_
  obtain ⟨x9, ex9, h⟩ := ltI h
  refine z_iinc C (pc1 := 1145) (v := x9) (lv' := [(0, .ref bs), (1, .ref (s.heap.size + 0)), (2, .ref (s.heap.size + 401)), (3, .int x9)]) d_law_1142 rfl 3 rfl (by rw [ex9]; rfl) (by decide) [1, 2, 3, 0] rfl ?_
  refine z_goto C (tgt := 18) d_law_1145 (by decide) ?_
  exact hK _ _ _ _ hld h
def C_law_5 (xs : Nat → Int32) (Lx : Nat) (K : Int32 → gM → gL → Nat → Option Int32) (i : Int32) (M : gM) (L : gL) (ld : Nat) : Option Int32 :=
  (if ((i + 1) : Int32) < 0 ∨ Lx ≤ ((i + 1) : Int32).toNatClampNeg then none else (if ((i + 2) : Int32) < 0 ∨ Lx ≤ ((i + 2) : Int32).toNatClampNeg then none else bI2 (F_Main_dish ld (xs ((i + 1) : Int32).toNatClampNeg) (xs ((i + 2) : Int32).toNatClampNeg) M) (fun r4 M5 => (if ((i + 1) : Int32) < 0 ∨ Lx ≤ ((i + 1) : Int32).toNatClampNeg then none else (if ((i + 2) : Int32) < 0 ∨ Lx ≤ ((i + 2) : Int32).toNatClampNeg then none else bI2 (F_Mod_dish (xs ((i + 1) : Int32).toNatClampNeg) (xs ((i + 2) : Int32).toNatClampNeg) M5) (fun r9 M10 => nmI (i + 6) (fun x11 => K x11 M10 L ld)))))))
set_option maxHeartbeats 4000000 in
set_option maxRecDepth 20000 in
theorem c_law_5 {l : Launch} {p : Program} {e : Env} {s : State} {m : MethodId} {below : List Frame} {meth : Method} {c : Code} {bs Lx : Nat} {xs : Nat → Int32} {D : va_G} {cA : Nat → ClassId} (C : ZC p s m meth c bs Lx xs D cA) (K : Int32 → gM → gL → Nat → Option Int32) (hK : ∀ (i : Int32) (M : gM) (L : gL) (ld : Nat), isLa ld → K i M L ld = some 1 → Zw l p e s m below meth c bs Lx xs D cA 447 23912 18 [(0, .ref bs), (1, .ref (s.heap.size + 0)), (2, .ref (s.heap.size + 401)), (3, .int i)] [] M L (rf ld)) {i : Int32} {M : gM} {L : gL} {ld : Nat} (hld : isLa ld) (h : C_law_5 xs Lx K i M L ld = some 1) : Zw l p e s m below meth c bs Lx xs D cA 447 23912 321 [(0, .ref bs), (1, .ref (s.heap.size + 0)), (2, .ref (s.heap.size + 401)), (3, .int i)] [] M L (rf ld) := by
  unfold C_law_5 at h
  refine z_aload_n C (pc1 := 322) 1 d_law_321 rfl rfl rfl ?_
  refine z_aload_n C (pc1 := 323) 0 d_law_322 rfl rfl rfl ?_
  refine z_iload_n C (pc1 := 324) 3 d_law_323 rfl rfl rfl ?_
  refine z_iconst C (pc1 := 325) (v := 1) d_law_324 rfl (by decide) ?_
  refine z_iadd C (pc1 := 326) d_law_325 rfl ?_
  obtain ⟨g1, h⟩ := gdn h
  refine z_sld C (pc1 := 327) d_law_326 rfl g1 ?_
  refine z_aload_n C (pc1 := 328) 0 d_law_327 rfl rfl rfl ?_
  refine z_iload_n C (pc1 := 329) 3 d_law_328 rfl rfl rfl ?_
  refine z_iconst C (pc1 := 330) (v := 2) d_law_329 rfl (by decide) ?_
  refine z_iadd C (pc1 := 331) d_law_330 rfl ?_
  obtain ⟨g2, h⟩ := gdn h
  refine z_sld C (pc1 := 332) d_law_331 rfl g2 ?_
  obtain ⟨r4, M5, hq3, h⟩ := bnd2 h
  refine z_callV C (E' := (0, 0, 447)) (pc1 := 335) (As := [.int (xs ((i + 1) : Int32).toNatClampNeg), .int (xs ((i + 2) : Int32).toNatClampNeg)]) (rest := []) d_law_332 rfl mo_Law0_37 mi_Main_dish mv_Main_dish sh_0 (by decide) rfl ⟨Nat.le_of_ble_eq_true rfl, Nat.le_of_ble_eq_true rfl⟩ rfl rfl (Nat.le_of_ble_eq_true rfl) ⟨Nat.le_of_ble_eq_true rfl, Nat.le_of_ble_eq_true rfl⟩ rfl ?_
  refine f_Main_dish hld hq3 ?_
  show Zw l p e s m below meth c bs Lx xs D cA 447 23912 335 [(0, .ref bs), (1, .ref (s.heap.size + 0)), (2, .ref (s.heap.size + 401)), (3, .int i)] [.int r4] M5 L (rf ld)
  refine z_pop C (pc1 := 336) d_law_335 rfl rfl ?_
  refine z_aload_n C (pc1 := 337) 2 d_law_336 rfl rfl rfl ?_
  refine z_aload_n C (pc1 := 338) 0 d_law_337 rfl rfl rfl ?_
  refine z_iload_n C (pc1 := 339) 3 d_law_338 rfl rfl rfl ?_
  refine z_iconst C (pc1 := 340) (v := 1) d_law_339 rfl (by decide) ?_
  refine z_iadd C (pc1 := 341) d_law_340 rfl ?_
  obtain ⟨g6, h⟩ := gdn h
  refine z_sld C (pc1 := 342) d_law_341 rfl g6 ?_
  refine z_aload_n C (pc1 := 343) 0 d_law_342 rfl rfl rfl ?_
  refine z_iload_n C (pc1 := 344) 3 d_law_343 rfl rfl rfl ?_
  refine z_iconst C (pc1 := 345) (v := 2) d_law_344 rfl (by decide) ?_
  refine z_iadd C (pc1 := 346) d_law_345 rfl ?_
  obtain ⟨g7, h⟩ := gdn h
  refine z_sld C (pc1 := 347) d_law_346 rfl g7 ?_
  obtain ⟨r9, M10, hq8, h⟩ := bnd2 h
  refine z_callV C (E' := (0, 0, 447)) (pc1 := 350) (As := [.int (xs ((i + 1) : Int32).toNatClampNeg), .int (xs ((i + 2) : Int32).toNatClampNeg)]) (rest := []) d_law_347 rfl mo_Law0_40 mi_Mod_dish mv_Mod_dish sh_401 (by decide) rfl ⟨Nat.le_of_ble_eq_true rfl, Nat.le_of_ble_eq_true rfl⟩ rfl rfl (Nat.le_of_ble_eq_true rfl) ⟨Nat.le_of_ble_eq_true rfl, Nat.le_of_ble_eq_true rfl⟩ rfl ?_
  refine f_Mod_dish hld hq8 ?_
  show Zw l p e s m below meth c bs Lx xs D cA 447 23912 350 [(0, .ref bs), (1, .ref (s.heap.size + 0)), (2, .ref (s.heap.size + 401)), (3, .int i)] [.int r9] M10 L (rf ld)
  refine z_pop C (pc1 := 351) d_law_350 rfl rfl ?_
  refine z_goto C (tgt := 1142) d_law_351 (by decide) ?_
  obtain ⟨x11, ex11, h⟩ := ltI h
  refine z_iinc C (pc1 := 1145) (v := x11) (lv' := [(0, .ref bs), (1, .ref (s.heap.size + 0)), (2, .ref (s.heap.size + 401)), (3, .int x11)]) d_law_1142 rfl 3 rfl (by rw [ex11]; rfl) (by decide) [1, 2, 3, 0] rfl ?_
  refine z_goto C (tgt := 18) d_law_1145 (by decide) ?_
  exact hK _ _ _ _ hld h
def C_law_6 (xs : Nat → Int32) (Lx : Nat) (K : Int32 → gM → gL → Nat → Option Int32) (i : Int32) (M : gM) (L : gL) (ld : Nat) : Option Int32 :=
  (if ((i + 1) : Int32) < 0 ∨ Lx ≤ ((i + 1) : Int32).toNatClampNeg then none else (if ((i + 2) : Int32) < 0 ∨ Lx ≤ ((i + 2) : Int32).toNatClampNeg then none else bI (F_Main_amount ld (xs ((i + 1) : Int32).toNatClampNeg) (xs ((i + 2) : Int32).toNatClampNeg) M) (fun r4 => (if ((i + 1) : Int32) < 0 ∨ Lx ≤ ((i + 1) : Int32).toNatClampNeg then none else (if ((i + 2) : Int32) < 0 ∨ Lx ≤ ((i + 2) : Int32).toNatClampNeg then none else bI (F_Mod_amount (xs ((i + 1) : Int32).toNatClampNeg) (xs ((i + 2) : Int32).toNatClampNeg) M) (fun r8 => nmI (i + 6) (fun x9 => K x9 M L ld)))))))
set_option maxHeartbeats 4000000 in
set_option maxRecDepth 20000 in
theorem c_law_6 {l : Launch} {p : Program} {e : Env} {s : State} {m : MethodId} {below : List Frame} {meth : Method} {c : Code} {bs Lx : Nat} {xs : Nat → Int32} {D : va_G} {cA : Nat → ClassId} (C : ZC p s m meth c bs Lx xs D cA) (K : Int32 → gM → gL → Nat → Option Int32) (hK : ∀ (i : Int32) (M : gM) (L : gL) (ld : Nat), isLa ld → K i M L ld = some 1 → Zw l p e s m below meth c bs Lx xs D cA 447 23912 18 [(0, .ref bs), (1, .ref (s.heap.size + 0)), (2, .ref (s.heap.size + 401)), (3, .int i)] [] M L (rf ld)) {i : Int32} {M : gM} {L : gL} {ld : Nat} (hld : isLa ld) (h : C_law_6 xs Lx K i M L ld = some 1) : Zw l p e s m below meth c bs Lx xs D cA 447 23912 354 [(0, .ref bs), (1, .ref (s.heap.size + 0)), (2, .ref (s.heap.size + 401)), (3, .int i)] [] M L (rf ld) := by
  unfold C_law_6 at h
  refine z_aload_n C (pc1 := 355) 1 d_law_354 rfl rfl rfl ?_
  refine z_aload_n C (pc1 := 356) 0 d_law_355 rfl rfl rfl ?_
  refine z_iload_n C (pc1 := 357) 3 d_law_356 rfl rfl rfl ?_
  refine z_iconst C (pc1 := 358) (v := 1) d_law_357 rfl (by decide) ?_
  refine z_iadd C (pc1 := 359) d_law_358 rfl ?_
  obtain ⟨g1, h⟩ := gdn h
  refine z_sld C (pc1 := 360) d_law_359 rfl g1 ?_
  refine z_aload_n C (pc1 := 361) 0 d_law_360 rfl rfl rfl ?_
  refine z_iload_n C (pc1 := 362) 3 d_law_361 rfl rfl rfl ?_
  refine z_iconst C (pc1 := 363) (v := 2) d_law_362 rfl (by decide) ?_
  refine z_iadd C (pc1 := 364) d_law_363 rfl ?_
  obtain ⟨g2, h⟩ := gdn h
  refine z_sld C (pc1 := 365) d_law_364 rfl g2 ?_
  obtain ⟨r4, hq3, h⟩ := bnd h
  refine z_callV C (E' := (0, 0, 447)) (pc1 := 368) (As := [.int (xs ((i + 1) : Int32).toNatClampNeg), .int (xs ((i + 2) : Int32).toNatClampNeg)]) (rest := []) d_law_365 rfl mo_Law0_41 mi_Main_amount mv_Main_amount sh_0 (by decide) rfl ⟨Nat.le_of_ble_eq_true rfl, Nat.le_of_ble_eq_true rfl⟩ rfl rfl (Nat.le_of_ble_eq_true rfl) ⟨Nat.le_of_ble_eq_true rfl, Nat.le_of_ble_eq_true rfl⟩ rfl ?_
  refine f_Main_amount hld hq3 ?_
  show Zw l p e s m below meth c bs Lx xs D cA 447 23912 368 [(0, .ref bs), (1, .ref (s.heap.size + 0)), (2, .ref (s.heap.size + 401)), (3, .int i)] [.int r4] M L (rf ld)
  refine z_pop C (pc1 := 369) d_law_368 rfl rfl ?_
  refine z_aload_n C (pc1 := 370) 2 d_law_369 rfl rfl rfl ?_
  refine z_aload_n C (pc1 := 371) 0 d_law_370 rfl rfl rfl ?_
  refine z_iload_n C (pc1 := 372) 3 d_law_371 rfl rfl rfl ?_
  refine z_iconst C (pc1 := 373) (v := 1) d_law_372 rfl (by decide) ?_
  refine z_iadd C (pc1 := 374) d_law_373 rfl ?_
  obtain ⟨g5, h⟩ := gdn h
  refine z_sld C (pc1 := 375) d_law_374 rfl g5 ?_
  refine z_aload_n C (pc1 := 376) 0 d_law_375 rfl rfl rfl ?_
  refine z_iload_n C (pc1 := 377) 3 d_law_376 rfl rfl rfl ?_
  refine z_iconst C (pc1 := 378) (v := 2) d_law_377 rfl (by decide) ?_
  refine z_iadd C (pc1 := 379) d_law_378 rfl ?_
  obtain ⟨g6, h⟩ := gdn h
  refine z_sld C (pc1 := 380) d_law_379 rfl g6 ?_
  obtain ⟨r8, hq7, h⟩ := bnd h
  refine z_callV C (E' := (0, 0, 447)) (pc1 := 383) (As := [.int (xs ((i + 1) : Int32).toNatClampNeg), .int (xs ((i + 2) : Int32).toNatClampNeg)]) (rest := []) d_law_380 rfl mo_Law0_44 mi_Mod_amount mv_Mod_amount sh_401 (by decide) rfl ⟨Nat.le_of_ble_eq_true rfl, Nat.le_of_ble_eq_true rfl⟩ rfl rfl (Nat.le_of_ble_eq_true rfl) ⟨Nat.le_of_ble_eq_true rfl, Nat.le_of_ble_eq_true rfl⟩ rfl ?_
  refine f_Mod_amount hld hq7 ?_
  show Zw l p e s m below meth c bs Lx xs D cA 447 23912 383 [(0, .ref bs), (1, .ref (s.heap.size + 0)), (2, .ref (s.heap.size + 401)), (3, .int i)] [.int r8] M L (rf ld)
  refine z_pop C (pc1 := 384) d_law_383 rfl rfl ?_
  refine z_goto C (tgt := 1142) d_law_384 (by decide) ?_
  obtain ⟨x9, ex9, h⟩ := ltI h
  refine z_iinc C (pc1 := 1145) (v := x9) (lv' := [(0, .ref bs), (1, .ref (s.heap.size + 0)), (2, .ref (s.heap.size + 401)), (3, .int x9)]) d_law_1142 rfl 3 rfl (by rw [ex9]; rfl) (by decide) [1, 2, 3, 0] rfl ?_
  refine z_goto C (tgt := 18) d_law_1145 (by decide) ?_
  exact hK _ _ _ _ hld h
def C_law_7 (xs : Nat → Int32) (Lx : Nat) (K : Int32 → gM → gL → Nat → Option Int32) (i : Int32) (M : gM) (L : gL) (ld : Nat) : Option Int32 :=
  (if ((i + 1) : Int32) < 0 ∨ Lx ≤ ((i + 1) : Int32).toNatClampNeg then none else (if ((i + 2) : Int32) < 0 ∨ Lx ≤ ((i + 2) : Int32).toNatClampNeg then none else bI2 (F_Main_guest ld (xs ((i + 1) : Int32).toNatClampNeg) (xs ((i + 2) : Int32).toNatClampNeg) M) (fun r4 M5 => (if ((i + 1) : Int32) < 0 ∨ Lx ≤ ((i + 1) : Int32).toNatClampNeg then none else (if ((i + 2) : Int32) < 0 ∨ Lx ≤ ((i + 2) : Int32).toNatClampNeg then none else bI2 (F_Mod_guest (xs ((i + 1) : Int32).toNatClampNeg) (xs ((i + 2) : Int32).toNatClampNeg) M5) (fun r9 M10 => nmI (i + 6) (fun x11 => K x11 M10 L ld)))))))
set_option maxHeartbeats 4000000 in
set_option maxRecDepth 20000 in
theorem c_law_7 {l : Launch} {p : Program} {e : Env} {s : State} {m : MethodId} {below : List Frame} {meth : Method} {c : Code} {bs Lx : Nat} {xs : Nat → Int32} {D : va_G} {cA : Nat → ClassId} (C : ZC p s m meth c bs Lx xs D cA) (K : Int32 → gM → gL → Nat → Option Int32) (hK : ∀ (i : Int32) (M : gM) (L : gL) (ld : Nat), isLa ld → K i M L ld = some 1 → Zw l p e s m below meth c bs Lx xs D cA 447 23912 18 [(0, .ref bs), (1, .ref (s.heap.size + 0)), (2, .ref (s.heap.size + 401)), (3, .int i)] [] M L (rf ld)) {i : Int32} {M : gM} {L : gL} {ld : Nat} (hld : isLa ld) (h : C_law_7 xs Lx K i M L ld = some 1) : Zw l p e s m below meth c bs Lx xs D cA 447 23912 387 [(0, .ref bs), (1, .ref (s.heap.size + 0)), (2, .ref (s.heap.size + 401)), (3, .int i)] [] M L (rf ld) := by
  unfold C_law_7 at h
  refine z_aload_n C (pc1 := 388) 1 d_law_387 rfl rfl rfl ?_
  refine z_aload_n C (pc1 := 389) 0 d_law_388 rfl rfl rfl ?_
  refine z_iload_n C (pc1 := 390) 3 d_law_389 rfl rfl rfl ?_
  refine z_iconst C (pc1 := 391) (v := 1) d_law_390 rfl (by decide) ?_
  refine z_iadd C (pc1 := 392) d_law_391 rfl ?_
  obtain ⟨g1, h⟩ := gdn h
  refine z_sld C (pc1 := 393) d_law_392 rfl g1 ?_
  refine z_aload_n C (pc1 := 394) 0 d_law_393 rfl rfl rfl ?_
  refine z_iload_n C (pc1 := 395) 3 d_law_394 rfl rfl rfl ?_
  refine z_iconst C (pc1 := 396) (v := 2) d_law_395 rfl (by decide) ?_
  refine z_iadd C (pc1 := 397) d_law_396 rfl ?_
  obtain ⟨g2, h⟩ := gdn h
  refine z_sld C (pc1 := 398) d_law_397 rfl g2 ?_
  obtain ⟨r4, M5, hq3, h⟩ := bnd2 h
  refine z_callV C (E' := (0, 0, 447)) (pc1 := 401) (As := [.int (xs ((i + 1) : Int32).toNatClampNeg), .int (xs ((i + 2) : Int32).toNatClampNeg)]) (rest := []) d_law_398 rfl mo_Law0_45 mi_Main_guest mv_Main_guest sh_0 (by decide) rfl ⟨Nat.le_of_ble_eq_true rfl, Nat.le_of_ble_eq_true rfl⟩ rfl rfl (Nat.le_of_ble_eq_true rfl) ⟨Nat.le_of_ble_eq_true rfl, Nat.le_of_ble_eq_true rfl⟩ rfl ?_
  refine f_Main_guest hld hq3 ?_
  show Zw l p e s m below meth c bs Lx xs D cA 447 23912 401 [(0, .ref bs), (1, .ref (s.heap.size + 0)), (2, .ref (s.heap.size + 401)), (3, .int i)] [.int r4] M5 L (rf ld)
  refine z_pop C (pc1 := 402) d_law_401 rfl rfl ?_
  refine z_aload_n C (pc1 := 403) 2 d_law_402 rfl rfl rfl ?_
  refine z_aload_n C (pc1 := 404) 0 d_law_403 rfl rfl rfl ?_
  refine z_iload_n C (pc1 := 405) 3 d_law_404 rfl rfl rfl ?_
  refine z_iconst C (pc1 := 406) (v := 1) d_law_405 rfl (by decide) ?_
  refine z_iadd C (pc1 := 407) d_law_406 rfl ?_
  obtain ⟨g6, h⟩ := gdn h
  refine z_sld C (pc1 := 408) d_law_407 rfl g6 ?_
  refine z_aload_n C (pc1 := 409) 0 d_law_408 rfl rfl rfl ?_
  refine z_iload_n C (pc1 := 410) 3 d_law_409 rfl rfl rfl ?_
  refine z_iconst C (pc1 := 411) (v := 2) d_law_410 rfl (by decide) ?_
  refine z_iadd C (pc1 := 412) d_law_411 rfl ?_
  obtain ⟨g7, h⟩ := gdn h
  refine z_sld C (pc1 := 413) d_law_412 rfl g7 ?_
  obtain ⟨r9, M10, hq8, h⟩ := bnd2 h
  refine z_callV C (E' := (0, 0, 447)) (pc1 := 416) (As := [.int (xs ((i + 1) : Int32).toNatClampNeg), .int (xs ((i + 2) : Int32).toNatClampNeg)]) (rest := []) d_law_413 rfl mo_Law0_48 mi_Mod_guest mv_Mod_guest sh_401 (by decide) rfl ⟨Nat.le_of_ble_eq_true rfl, Nat.le_of_ble_eq_true rfl⟩ rfl rfl (Nat.le_of_ble_eq_true rfl) ⟨Nat.le_of_ble_eq_true rfl, Nat.le_of_ble_eq_true rfl⟩ rfl ?_
  refine f_Mod_guest hld hq8 ?_
  show Zw l p e s m below meth c bs Lx xs D cA 447 23912 416 [(0, .ref bs), (1, .ref (s.heap.size + 0)), (2, .ref (s.heap.size + 401)), (3, .int i)] [.int r9] M10 L (rf ld)
  refine z_pop C (pc1 := 417) d_law_416 rfl rfl ?_
  refine z_goto C (tgt := 1142) d_law_417 (by decide) ?_
  obtain ⟨x11, ex11, h⟩ := ltI h
  refine z_iinc C (pc1 := 1145) (v := x11) (lv' := [(0, .ref bs), (1, .ref (s.heap.size + 0)), (2, .ref (s.heap.size + 401)), (3, .int x11)]) d_law_1142 rfl 3 rfl (by rw [ex11]; rfl) (by decide) [1, 2, 3, 0] rfl ?_
  refine z_goto C (tgt := 18) d_law_1145 (by decide) ?_
  exact hK _ _ _ _ hld h
def C_law_8 (xs : Nat → Int32) (Lx : Nat) (K : Int32 → gM → gL → Nat → Option Int32) (i : Int32) (M : gM) (L : gL) (ld : Nat) : Option Int32 :=
  (if ((i + 1) : Int32) < 0 ∨ Lx ≤ ((i + 1) : Int32).toNatClampNeg then none else (if ((i + 2) : Int32) < 0 ∨ Lx ≤ ((i + 2) : Int32).toNatClampNeg then none else bI2 (F_Main_deed ld (xs ((i + 1) : Int32).toNatClampNeg) (xs ((i + 2) : Int32).toNatClampNeg) M) (fun r4 M5 => (if ((i + 1) : Int32) < 0 ∨ Lx ≤ ((i + 1) : Int32).toNatClampNeg then none else (if ((i + 2) : Int32) < 0 ∨ Lx ≤ ((i + 2) : Int32).toNatClampNeg then none else bI2 (F_Mod_deed (xs ((i + 1) : Int32).toNatClampNeg) (xs ((i + 2) : Int32).toNatClampNeg) M5) (fun r9 M10 => nmI (i + 6) (fun x11 => K x11 M10 L ld)))))))
set_option maxHeartbeats 4000000 in
set_option maxRecDepth 20000 in
theorem c_law_8 {l : Launch} {p : Program} {e : Env} {s : State} {m : MethodId} {below : List Frame} {meth : Method} {c : Code} {bs Lx : Nat} {xs : Nat → Int32} {D : va_G} {cA : Nat → ClassId} (C : ZC p s m meth c bs Lx xs D cA) (K : Int32 → gM → gL → Nat → Option Int32) (hK : ∀ (i : Int32) (M : gM) (L : gL) (ld : Nat), isLa ld → K i M L ld = some 1 → Zw l p e s m below meth c bs Lx xs D cA 447 23912 18 [(0, .ref bs), (1, .ref (s.heap.size + 0)), (2, .ref (s.heap.size + 401)), (3, .int i)] [] M L (rf ld)) {i : Int32} {M : gM} {L : gL} {ld : Nat} (hld : isLa ld) (h : C_law_8 xs Lx K i M L ld = some 1) : Zw l p e s m below meth c bs Lx xs D cA 447 23912 420 [(0, .ref bs), (1, .ref (s.heap.size + 0)), (2, .ref (s.heap.size + 401)), (3, .int i)] [] M L (rf ld) := by
  unfold C_law_8 at h
  refine z_aload_n C (pc1 := 421) 1 d_law_420 rfl rfl rfl ?_
  refine z_aload_n C (pc1 := 422) 0 d_law_421 rfl rfl rfl ?_
  refine z_iload_n C (pc1 := 423) 3 d_law_422 rfl rfl rfl ?_
  refine z_iconst C (pc1 := 424) (v := 1) d_law_423 rfl (by decide) ?_
  refine z_iadd C (pc1 := 425) d_law_424 rfl ?_
  obtain ⟨g1, h⟩ := gdn h
  refine z_sld C (pc1 := 426) d_law_425 rfl g1 ?_
  refine z_aload_n C (pc1 := 427) 0 d_law_426 rfl rfl rfl ?_
  refine z_iload_n C (pc1 := 428) 3 d_law_427 rfl rfl rfl ?_
  refine z_iconst C (pc1 := 429) (v := 2) d_law_428 rfl (by decide) ?_
  refine z_iadd C (pc1 := 430) d_law_429 rfl ?_
  obtain ⟨g2, h⟩ := gdn h
  refine z_sld C (pc1 := 431) d_law_430 rfl g2 ?_
  obtain ⟨r4, M5, hq3, h⟩ := bnd2 h
  refine z_callV C (E' := (0, 0, 447)) (pc1 := 434) (As := [.int (xs ((i + 1) : Int32).toNatClampNeg), .int (xs ((i + 2) : Int32).toNatClampNeg)]) (rest := []) d_law_431 rfl mo_Law0_49 mi_Main_deed mv_Main_deed sh_0 (by decide) rfl ⟨Nat.le_of_ble_eq_true rfl, Nat.le_of_ble_eq_true rfl⟩ rfl rfl (Nat.le_of_ble_eq_true rfl) ⟨Nat.le_of_ble_eq_true rfl, Nat.le_of_ble_eq_true rfl⟩ rfl ?_
  refine f_Main_deed hld hq3 ?_
  show Zw l p e s m below meth c bs Lx xs D cA 447 23912 434 [(0, .ref bs), (1, .ref (s.heap.size + 0)), (2, .ref (s.heap.size + 401)), (3, .int i)] [.int r4] M5 L (rf ld)
  refine z_pop C (pc1 := 435) d_law_434 rfl rfl ?_
  refine z_aload_n C (pc1 := 436) 2 d_law_435 rfl rfl rfl ?_
  refine z_aload_n C (pc1 := 437) 0 d_law_436 rfl rfl rfl ?_
  refine z_iload_n C (pc1 := 438) 3 d_law_437 rfl rfl rfl ?_
  refine z_iconst C (pc1 := 439) (v := 1) d_law_438 rfl (by decide) ?_
  refine z_iadd C (pc1 := 440) d_law_439 rfl ?_
  obtain ⟨g6, h⟩ := gdn h
  refine z_sld C (pc1 := 441) d_law_440 rfl g6 ?_
  refine z_aload_n C (pc1 := 442) 0 d_law_441 rfl rfl rfl ?_
  refine z_iload_n C (pc1 := 443) 3 d_law_442 rfl rfl rfl ?_
  refine z_iconst C (pc1 := 444) (v := 2) d_law_443 rfl (by decide) ?_
  refine z_iadd C (pc1 := 445) d_law_444 rfl ?_
  obtain ⟨g7, h⟩ := gdn h
  refine z_sld C (pc1 := 446) d_law_445 rfl g7 ?_
  obtain ⟨r9, M10, hq8, h⟩ := bnd2 h
  refine z_callV C (E' := (0, 0, 447)) (pc1 := 449) (As := [.int (xs ((i + 1) : Int32).toNatClampNeg), .int (xs ((i + 2) : Int32).toNatClampNeg)]) (rest := []) d_law_446 rfl mo_Law0_52 mi_Mod_deed mv_Mod_deed sh_401 (by decide) rfl ⟨Nat.le_of_ble_eq_true rfl, Nat.le_of_ble_eq_true rfl⟩ rfl rfl (Nat.le_of_ble_eq_true rfl) ⟨Nat.le_of_ble_eq_true rfl, Nat.le_of_ble_eq_true rfl⟩ rfl ?_
  refine f_Mod_deed hld hq8 ?_
  show Zw l p e s m below meth c bs Lx xs D cA 447 23912 449 [(0, .ref bs), (1, .ref (s.heap.size + 0)), (2, .ref (s.heap.size + 401)), (3, .int i)] [.int r9] M10 L (rf ld)
  refine z_pop C (pc1 := 450) d_law_449 rfl rfl ?_
  refine z_goto C (tgt := 1142) d_law_450 (by decide) ?_
  obtain ⟨x11, ex11, h⟩ := ltI h
  refine z_iinc C (pc1 := 1145) (v := x11) (lv' := [(0, .ref bs), (1, .ref (s.heap.size + 0)), (2, .ref (s.heap.size + 401)), (3, .int x11)]) d_law_1142 rfl 3 rfl (by rw [ex11]; rfl) (by decide) [1, 2, 3, 0] rfl ?_
  refine z_goto C (tgt := 18) d_law_1145 (by decide) ?_
  exact hK _ _ _ _ hld h
def C_law_9 (xs : Nat → Int32) (Lx : Nat) (K : Int32 → gM → gL → Nat → Option Int32) (i : Int32) (M : gM) (L : gL) (ld : Nat) : Option Int32 :=
  (if ((i + 1) : Int32) < 0 ∨ Lx ≤ ((i + 1) : Int32).toNatClampNeg then none else bI2 (F_Main_cook ld (xs ((i + 1) : Int32).toNatClampNeg) M) (fun r3 M4 => (if ((i + 1) : Int32) < 0 ∨ Lx ≤ ((i + 1) : Int32).toNatClampNeg then none else bI2 (F_Mod_cook (xs ((i + 1) : Int32).toNatClampNeg) M4) (fun r7 M8 => nmI (i + 6) (fun x9 => K x9 M8 L ld)))))
set_option maxHeartbeats 4000000 in
set_option maxRecDepth 20000 in
theorem c_law_9 {l : Launch} {p : Program} {e : Env} {s : State} {m : MethodId} {below : List Frame} {meth : Method} {c : Code} {bs Lx : Nat} {xs : Nat → Int32} {D : va_G} {cA : Nat → ClassId} (C : ZC p s m meth c bs Lx xs D cA) (K : Int32 → gM → gL → Nat → Option Int32) (hK : ∀ (i : Int32) (M : gM) (L : gL) (ld : Nat), isLa ld → K i M L ld = some 1 → Zw l p e s m below meth c bs Lx xs D cA 447 23912 18 [(0, .ref bs), (1, .ref (s.heap.size + 0)), (2, .ref (s.heap.size + 401)), (3, .int i)] [] M L (rf ld)) {i : Int32} {M : gM} {L : gL} {ld : Nat} (hld : isLa ld) (h : C_law_9 xs Lx K i M L ld = some 1) : Zw l p e s m below meth c bs Lx xs D cA 447 23912 453 [(0, .ref bs), (1, .ref (s.heap.size + 0)), (2, .ref (s.heap.size + 401)), (3, .int i)] [] M L (rf ld) := by
  unfold C_law_9 at h
  refine z_aload_n C (pc1 := 454) 1 d_law_453 rfl rfl rfl ?_
  refine z_aload_n C (pc1 := 455) 0 d_law_454 rfl rfl rfl ?_
  refine z_iload_n C (pc1 := 456) 3 d_law_455 rfl rfl rfl ?_
  refine z_iconst C (pc1 := 457) (v := 1) d_law_456 rfl (by decide) ?_
  refine z_iadd C (pc1 := 458) d_law_457 rfl ?_
  obtain ⟨g1, h⟩ := gdn h
  refine z_sld C (pc1 := 459) d_law_458 rfl g1 ?_
  obtain ⟨r3, M4, hq2, h⟩ := bnd2 h
  refine z_callV C (E' := (0, 0, 447)) (pc1 := 462) (As := [.int (xs ((i + 1) : Int32).toNatClampNeg)]) (rest := []) d_law_459 rfl mo_Law0_53 mi_Main_cook mv_Main_cook sh_0 (by decide) rfl ⟨Nat.le_of_ble_eq_true rfl, Nat.le_of_ble_eq_true rfl⟩ rfl rfl (Nat.le_of_ble_eq_true rfl) ⟨Nat.le_of_ble_eq_true rfl, Nat.le_of_ble_eq_true rfl⟩ rfl ?_
  refine f_Main_cook hld hq2 ?_
  show Zw l p e s m below meth c bs Lx xs D cA 447 23912 462 [(0, .ref bs), (1, .ref (s.heap.size + 0)), (2, .ref (s.heap.size + 401)), (3, .int i)] [.int r3] M4 L (rf ld)
  refine z_pop C (pc1 := 463) d_law_462 rfl rfl ?_
  refine z_aload_n C (pc1 := 464) 2 d_law_463 rfl rfl rfl ?_
  refine z_aload_n C (pc1 := 465) 0 d_law_464 rfl rfl rfl ?_
  refine z_iload_n C (pc1 := 466) 3 d_law_465 rfl rfl rfl ?_
  refine z_iconst C (pc1 := 467) (v := 1) d_law_466 rfl (by decide) ?_
  refine z_iadd C (pc1 := 468) d_law_467 rfl ?_
  obtain ⟨g5, h⟩ := gdn h
  refine z_sld C (pc1 := 469) d_law_468 rfl g5 ?_
  obtain ⟨r7, M8, hq6, h⟩ := bnd2 h
  refine z_callV C (E' := (0, 0, 447)) (pc1 := 472) (As := [.int (xs ((i + 1) : Int32).toNatClampNeg)]) (rest := []) d_law_469 rfl mo_Law0_56 mi_Mod_cook mv_Mod_cook sh_401 (by decide) rfl ⟨Nat.le_of_ble_eq_true rfl, Nat.le_of_ble_eq_true rfl⟩ rfl rfl (Nat.le_of_ble_eq_true rfl) ⟨Nat.le_of_ble_eq_true rfl, Nat.le_of_ble_eq_true rfl⟩ rfl ?_
  refine f_Mod_cook hld hq6 ?_
  show Zw l p e s m below meth c bs Lx xs D cA 447 23912 472 [(0, .ref bs), (1, .ref (s.heap.size + 0)), (2, .ref (s.heap.size + 401)), (3, .int i)] [.int r7] M8 L (rf ld)
  refine z_pop C (pc1 := 473) d_law_472 rfl rfl ?_
  refine z_goto C (tgt := 1142) d_law_473 (by decide) ?_
  obtain ⟨x9, ex9, h⟩ := ltI h
  refine z_iinc C (pc1 := 1145) (v := x9) (lv' := [(0, .ref bs), (1, .ref (s.heap.size + 0)), (2, .ref (s.heap.size + 401)), (3, .int x9)]) d_law_1142 rfl 3 rfl (by rw [ex9]; rfl) (by decide) [1, 2, 3, 0] rfl ?_
  refine z_goto C (tgt := 18) d_law_1145 (by decide) ?_
  exact hK _ _ _ _ hld h
def C_law_10 (xs : Nat → Int32) (Lx : Nat) (K : Int32 → gM → gL → Nat → Option Int32) (i : Int32) (M : gM) (L : gL) (ld : Nat) : Option Int32 :=
  (if ((i + 1) : Int32) < 0 ∨ Lx ≤ ((i + 1) : Int32).toNatClampNeg then none else bI2 (F_Main_eat ld (xs ((i + 1) : Int32).toNatClampNeg) M) (fun r3 M4 => (if ((i + 1) : Int32) < 0 ∨ Lx ≤ ((i + 1) : Int32).toNatClampNeg then none else bI2 (F_Mod_eat (xs ((i + 1) : Int32).toNatClampNeg) M4) (fun r7 M8 => nmI (i + 6) (fun x9 => K x9 M8 L ld)))))
set_option maxHeartbeats 4000000 in
set_option maxRecDepth 20000 in
theorem c_law_10 {l : Launch} {p : Program} {e : Env} {s : State} {m : MethodId} {below : List Frame} {meth : Method} {c : Code} {bs Lx : Nat} {xs : Nat → Int32} {D : va_G} {cA : Nat → ClassId} (C : ZC p s m meth c bs Lx xs D cA) (K : Int32 → gM → gL → Nat → Option Int32) (hK : ∀ (i : Int32) (M : gM) (L : gL) (ld : Nat), isLa ld → K i M L ld = some 1 → Zw l p e s m below meth c bs Lx xs D cA 447 23912 18 [(0, .ref bs), (1, .ref (s.heap.size + 0)), (2, .ref (s.heap.size + 401)), (3, .int i)] [] M L (rf ld)) {i : Int32} {M : gM} {L : gL} {ld : Nat} (hld : isLa ld) (h : C_law_10 xs Lx K i M L ld = some 1) : Zw l p e s m below meth c bs Lx xs D cA 447 23912 476 [(0, .ref bs), (1, .ref (s.heap.size + 0)), (2, .ref (s.heap.size + 401)), (3, .int i)] [] M L (rf ld) := by
  unfold C_law_10 at h
  refine z_aload_n C (pc1 := 477) 1 d_law_476 rfl rfl rfl ?_
  refine z_aload_n C (pc1 := 478) 0 d_law_477 rfl rfl rfl ?_
  refine z_iload_n C (pc1 := 479) 3 d_law_478 rfl rfl rfl ?_
  refine z_iconst C (pc1 := 480) (v := 1) d_law_479 rfl (by decide) ?_
  refine z_iadd C (pc1 := 481) d_law_480 rfl ?_
  obtain ⟨g1, h⟩ := gdn h
  refine z_sld C (pc1 := 482) d_law_481 rfl g1 ?_
  obtain ⟨r3, M4, hq2, h⟩ := bnd2 h
  refine z_callV C (E' := (0, 0, 447)) (pc1 := 485) (As := [.int (xs ((i + 1) : Int32).toNatClampNeg)]) (rest := []) d_law_482 rfl mo_Law0_57 mi_Main_eat mv_Main_eat sh_0 (by decide) rfl ⟨Nat.le_of_ble_eq_true rfl, Nat.le_of_ble_eq_true rfl⟩ rfl rfl (Nat.le_of_ble_eq_true rfl) ⟨Nat.le_of_ble_eq_true rfl, Nat.le_of_ble_eq_true rfl⟩ rfl ?_
  refine f_Main_eat hld hq2 ?_
  show Zw l p e s m below meth c bs Lx xs D cA 447 23912 485 [(0, .ref bs), (1, .ref (s.heap.size + 0)), (2, .ref (s.heap.size + 401)), (3, .int i)] [.int r3] M4 L (rf ld)
  refine z_pop C (pc1 := 486) d_law_485 rfl rfl ?_
  refine z_aload_n C (pc1 := 487) 2 d_law_486 rfl rfl rfl ?_
  refine z_aload_n C (pc1 := 488) 0 d_law_487 rfl rfl rfl ?_
  refine z_iload_n C (pc1 := 489) 3 d_law_488 rfl rfl rfl ?_
  refine z_iconst C (pc1 := 490) (v := 1) d_law_489 rfl (by decide) ?_
  refine z_iadd C (pc1 := 491) d_law_490 rfl ?_
  obtain ⟨g5, h⟩ := gdn h
  refine z_sld C (pc1 := 492) d_law_491 rfl g5 ?_
  obtain ⟨r7, M8, hq6, h⟩ := bnd2 h
  refine z_callV C (E' := (0, 0, 447)) (pc1 := 495) (As := [.int (xs ((i + 1) : Int32).toNatClampNeg)]) (rest := []) d_law_492 rfl mo_Law0_60 mi_Mod_eat mv_Mod_eat sh_401 (by decide) rfl ⟨Nat.le_of_ble_eq_true rfl, Nat.le_of_ble_eq_true rfl⟩ rfl rfl (Nat.le_of_ble_eq_true rfl) ⟨Nat.le_of_ble_eq_true rfl, Nat.le_of_ble_eq_true rfl⟩ rfl ?_
  refine f_Mod_eat hld hq6 ?_
  show Zw l p e s m below meth c bs Lx xs D cA 447 23912 495 [(0, .ref bs), (1, .ref (s.heap.size + 0)), (2, .ref (s.heap.size + 401)), (3, .int i)] [.int r7] M8 L (rf ld)
  refine z_pop C (pc1 := 496) d_law_495 rfl rfl ?_
  refine z_goto C (tgt := 1142) d_law_496 (by decide) ?_
  obtain ⟨x9, ex9, h⟩ := ltI h
  refine z_iinc C (pc1 := 1145) (v := x9) (lv' := [(0, .ref bs), (1, .ref (s.heap.size + 0)), (2, .ref (s.heap.size + 401)), (3, .int x9)]) d_law_1142 rfl 3 rfl (by rw [ex9]; rfl) (by decide) [1, 2, 3, 0] rfl ?_
  refine z_goto C (tgt := 18) d_law_1145 (by decide) ?_
  exact hK _ _ _ _ hld h
def C_law_11 (xs : Nat → Int32) (Lx : Nat) (K : Int32 → gM → gL → Nat → Option Int32) (i : Int32) (M : gM) (L : gL) (ld : Nat) : Option Int32 :=
  (if ((i + 1) : Int32) < 0 ∨ Lx ≤ ((i + 1) : Int32).toNatClampNeg then none else bI2 (F_Main_days ld (xs ((i + 1) : Int32).toNatClampNeg) M) (fun r3 M4 => (if ((i + 1) : Int32) < 0 ∨ Lx ≤ ((i + 1) : Int32).toNatClampNeg then none else bI2 (F_Mod_days (xs ((i + 1) : Int32).toNatClampNeg) M4) (fun r7 M8 => nmI (i + 6) (fun x9 => K x9 M8 L ld)))))
set_option maxHeartbeats 4000000 in
set_option maxRecDepth 20000 in
theorem c_law_11 {l : Launch} {p : Program} {e : Env} {s : State} {m : MethodId} {below : List Frame} {meth : Method} {c : Code} {bs Lx : Nat} {xs : Nat → Int32} {D : va_G} {cA : Nat → ClassId} (C : ZC p s m meth c bs Lx xs D cA) (K : Int32 → gM → gL → Nat → Option Int32) (hK : ∀ (i : Int32) (M : gM) (L : gL) (ld : Nat), isLa ld → K i M L ld = some 1 → Zw l p e s m below meth c bs Lx xs D cA 447 23912 18 [(0, .ref bs), (1, .ref (s.heap.size + 0)), (2, .ref (s.heap.size + 401)), (3, .int i)] [] M L (rf ld)) {i : Int32} {M : gM} {L : gL} {ld : Nat} (hld : isLa ld) (h : C_law_11 xs Lx K i M L ld = some 1) : Zw l p e s m below meth c bs Lx xs D cA 447 23912 499 [(0, .ref bs), (1, .ref (s.heap.size + 0)), (2, .ref (s.heap.size + 401)), (3, .int i)] [] M L (rf ld) := by
  unfold C_law_11 at h
  refine z_aload_n C (pc1 := 500) 1 d_law_499 rfl rfl rfl ?_
  refine z_aload_n C (pc1 := 501) 0 d_law_500 rfl rfl rfl ?_
  refine z_iload_n C (pc1 := 502) 3 d_law_501 rfl rfl rfl ?_
  refine z_iconst C (pc1 := 503) (v := 1) d_law_502 rfl (by decide) ?_
  refine z_iadd C (pc1 := 504) d_law_503 rfl ?_
  obtain ⟨g1, h⟩ := gdn h
  refine z_sld C (pc1 := 505) d_law_504 rfl g1 ?_
  obtain ⟨r3, M4, hq2, h⟩ := bnd2 h
  refine z_callV C (E' := (0, 0, 447)) (pc1 := 508) (As := [.int (xs ((i + 1) : Int32).toNatClampNeg)]) (rest := []) d_law_505 rfl mo_Law0_61 mi_Main_days mv_Main_days sh_0 (by decide) rfl ⟨Nat.le_of_ble_eq_true rfl, Nat.le_of_ble_eq_true rfl⟩ rfl rfl (Nat.le_of_ble_eq_true rfl) ⟨Nat.le_of_ble_eq_true rfl, Nat.le_of_ble_eq_true rfl⟩ rfl ?_
  refine f_Main_days hld hq2 ?_
  show Zw l p e s m below meth c bs Lx xs D cA 447 23912 508 [(0, .ref bs), (1, .ref (s.heap.size + 0)), (2, .ref (s.heap.size + 401)), (3, .int i)] [.int r3] M4 L (rf ld)
  refine z_pop C (pc1 := 509) d_law_508 rfl rfl ?_
  refine z_aload_n C (pc1 := 510) 2 d_law_509 rfl rfl rfl ?_
  refine z_aload_n C (pc1 := 511) 0 d_law_510 rfl rfl rfl ?_
  refine z_iload_n C (pc1 := 512) 3 d_law_511 rfl rfl rfl ?_
  refine z_iconst C (pc1 := 513) (v := 1) d_law_512 rfl (by decide) ?_
  refine z_iadd C (pc1 := 514) d_law_513 rfl ?_
  obtain ⟨g5, h⟩ := gdn h
  refine z_sld C (pc1 := 515) d_law_514 rfl g5 ?_
  obtain ⟨r7, M8, hq6, h⟩ := bnd2 h
  refine z_callV C (E' := (0, 0, 447)) (pc1 := 518) (As := [.int (xs ((i + 1) : Int32).toNatClampNeg)]) (rest := []) d_law_515 rfl mo_Law0_64 mi_Mod_days mv_Mod_days sh_401 (by decide) rfl ⟨Nat.le_of_ble_eq_true rfl, Nat.le_of_ble_eq_true rfl⟩ rfl rfl (Nat.le_of_ble_eq_true rfl) ⟨Nat.le_of_ble_eq_true rfl, Nat.le_of_ble_eq_true rfl⟩ rfl ?_
  refine f_Mod_days hld hq6 ?_
  show Zw l p e s m below meth c bs Lx xs D cA 447 23912 518 [(0, .ref bs), (1, .ref (s.heap.size + 0)), (2, .ref (s.heap.size + 401)), (3, .int i)] [.int r7] M8 L (rf ld)
  refine z_pop C (pc1 := 519) d_law_518 rfl rfl ?_
  refine z_goto C (tgt := 1142) d_law_519 (by decide) ?_
  obtain ⟨x9, ex9, h⟩ := ltI h
  refine z_iinc C (pc1 := 1145) (v := x9) (lv' := [(0, .ref bs), (1, .ref (s.heap.size + 0)), (2, .ref (s.heap.size + 401)), (3, .int x9)]) d_law_1142 rfl 3 rfl (by rw [ex9]; rfl) (by decide) [1, 2, 3, 0] rfl ?_
  refine z_goto C (tgt := 18) d_law_1145 (by decide) ?_
  exact hK _ _ _ _ hld h
def C_law_12 (xs : Nat → Int32) (Lx : Nat) (K : Int32 → gM → gL → Nat → Option Int32) (i : Int32) (M : gM) (L : gL) (ld : Nat) : Option Int32 :=
  bI2 (F_Main_undo M) (fun r2 M3 => bI2 (F_Mod_undo M3) (fun r5 M6 => nmI (i + 6) (fun x7 => K x7 M6 L ld)))
set_option maxHeartbeats 4000000 in
set_option maxRecDepth 20000 in
theorem c_law_12 {l : Launch} {p : Program} {e : Env} {s : State} {m : MethodId} {below : List Frame} {meth : Method} {c : Code} {bs Lx : Nat} {xs : Nat → Int32} {D : va_G} {cA : Nat → ClassId} (C : ZC p s m meth c bs Lx xs D cA) (K : Int32 → gM → gL → Nat → Option Int32) (hK : ∀ (i : Int32) (M : gM) (L : gL) (ld : Nat), isLa ld → K i M L ld = some 1 → Zw l p e s m below meth c bs Lx xs D cA 447 23912 18 [(0, .ref bs), (1, .ref (s.heap.size + 0)), (2, .ref (s.heap.size + 401)), (3, .int i)] [] M L (rf ld)) {i : Int32} {M : gM} {L : gL} {ld : Nat} (hld : isLa ld) (h : C_law_12 xs Lx K i M L ld = some 1) : Zw l p e s m below meth c bs Lx xs D cA 447 23912 522 [(0, .ref bs), (1, .ref (s.heap.size + 0)), (2, .ref (s.heap.size + 401)), (3, .int i)] [] M L (rf ld) := by
  unfold C_law_12 at h
  refine z_aload_n C (pc1 := 523) 1 d_law_522 rfl rfl rfl ?_
  obtain ⟨r2, M3, hq1, h⟩ := bnd2 h
  refine z_callV C (E' := (0, 0, 447)) (pc1 := 526) (As := []) (rest := []) d_law_523 rfl mo_Law0_65 mi_Main_undo mv_Main_undo sh_0 (by decide) rfl ⟨Nat.le_of_ble_eq_true rfl, Nat.le_of_ble_eq_true rfl⟩ rfl rfl (Nat.le_of_ble_eq_true rfl) ⟨Nat.le_of_ble_eq_true rfl, Nat.le_of_ble_eq_true rfl⟩ rfl ?_
  refine f_Main_undo hld hq1 ?_
  show Zw l p e s m below meth c bs Lx xs D cA 447 23912 526 [(0, .ref bs), (1, .ref (s.heap.size + 0)), (2, .ref (s.heap.size + 401)), (3, .int i)] [.int r2] M3 L (rf ld)
  refine z_pop C (pc1 := 527) d_law_526 rfl rfl ?_
  refine z_aload_n C (pc1 := 528) 2 d_law_527 rfl rfl rfl ?_
  obtain ⟨r5, M6, hq4, h⟩ := bnd2 h
  refine z_callV C (E' := (0, 0, 447)) (pc1 := 531) (As := []) (rest := []) d_law_528 rfl mo_Law0_69 mi_Mod_undo mv_Mod_undo sh_401 (by decide) rfl ⟨Nat.le_of_ble_eq_true rfl, Nat.le_of_ble_eq_true rfl⟩ rfl rfl (Nat.le_of_ble_eq_true rfl) ⟨Nat.le_of_ble_eq_true rfl, Nat.le_of_ble_eq_true rfl⟩ rfl ?_
  refine f_Mod_undo hld hq4 ?_
  show Zw l p e s m below meth c bs Lx xs D cA 447 23912 531 [(0, .ref bs), (1, .ref (s.heap.size + 0)), (2, .ref (s.heap.size + 401)), (3, .int i)] [.int r5] M6 L (rf ld)
  refine z_pop C (pc1 := 532) d_law_531 rfl rfl ?_
  refine z_goto C (tgt := 1142) d_law_532 (by decide) ?_
  obtain ⟨x7, ex7, h⟩ := ltI h
  refine z_iinc C (pc1 := 1145) (v := x7) (lv' := [(0, .ref bs), (1, .ref (s.heap.size + 0)), (2, .ref (s.heap.size + 401)), (3, .int x7)]) d_law_1142 rfl 3 rfl (by rw [ex7]; rfl) (by decide) [1, 2, 3, 0] rfl ?_
  refine z_goto C (tgt := 18) d_law_1145 (by decide) ?_
  exact hK _ _ _ _ hld h
def C_law_13 (xs : Nat → Int32) (Lx : Nat) (K : Int32 → gM → gL → Nat → Option Int32) (i : Int32) (M : gM) (L : gL) (ld : Nat) : Option Int32 :=
  (if ((i + 1) : Int32) < 0 ∨ Lx ≤ ((i + 1) : Int32).toNatClampNeg then none else (if ((i + 2) : Int32) < 0 ∨ Lx ≤ ((i + 2) : Int32).toNatClampNeg then none else (if ((i + 3) : Int32) < 0 ∨ Lx ≤ ((i + 3) : Int32).toNatClampNeg then none else (if ((i + 4) : Int32) < 0 ∨ Lx ≤ ((i + 4) : Int32).toNatClampNeg then none else bI2 (F_Main_pot ld (xs ((i + 1) : Int32).toNatClampNeg) (xs ((i + 2) : Int32).toNatClampNeg) (xs ((i + 3) : Int32).toNatClampNeg) (xs ((i + 4) : Int32).toNatClampNeg) M) (fun r6 M7 => (if ((i + 1) : Int32) < 0 ∨ Lx ≤ ((i + 1) : Int32).toNatClampNeg then none else (if ((i + 2) : Int32) < 0 ∨ Lx ≤ ((i + 2) : Int32).toNatClampNeg then none else (if ((i + 3) : Int32) < 0 ∨ Lx ≤ ((i + 3) : Int32).toNatClampNeg then none else (if ((i + 4) : Int32) < 0 ∨ Lx ≤ ((i + 4) : Int32).toNatClampNeg then none else bI2 (F_Mod_pot (xs ((i + 1) : Int32).toNatClampNeg) (xs ((i + 2) : Int32).toNatClampNeg) (xs ((i + 3) : Int32).toNatClampNeg) (xs ((i + 4) : Int32).toNatClampNeg) M7) (fun r13 M14 => nmI (i + 6) (fun x15 => K x15 M14 L ld)))))))))))
set_option maxHeartbeats 4000000 in
set_option maxRecDepth 20000 in
theorem c_law_13 {l : Launch} {p : Program} {e : Env} {s : State} {m : MethodId} {below : List Frame} {meth : Method} {c : Code} {bs Lx : Nat} {xs : Nat → Int32} {D : va_G} {cA : Nat → ClassId} (C : ZC p s m meth c bs Lx xs D cA) (K : Int32 → gM → gL → Nat → Option Int32) (hK : ∀ (i : Int32) (M : gM) (L : gL) (ld : Nat), isLa ld → K i M L ld = some 1 → Zw l p e s m below meth c bs Lx xs D cA 447 23912 18 [(0, .ref bs), (1, .ref (s.heap.size + 0)), (2, .ref (s.heap.size + 401)), (3, .int i)] [] M L (rf ld)) {i : Int32} {M : gM} {L : gL} {ld : Nat} (hld : isLa ld) (h : C_law_13 xs Lx K i M L ld = some 1) : Zw l p e s m below meth c bs Lx xs D cA 447 23912 535 [(0, .ref bs), (1, .ref (s.heap.size + 0)), (2, .ref (s.heap.size + 401)), (3, .int i)] [] M L (rf ld) := by
  unfold C_law_13 at h
  refine z_aload_n C (pc1 := 536) 1 d_law_535 rfl rfl rfl ?_
  refine z_aload_n C (pc1 := 537) 0 d_law_536 rfl rfl rfl ?_
  refine z_iload_n C (pc1 := 538) 3 d_law_537 rfl rfl rfl ?_
  refine z_iconst C (pc1 := 539) (v := 1) d_law_538 rfl (by decide) ?_
  refine z_iadd C (pc1 := 540) d_law_539 rfl ?_
  obtain ⟨g1, h⟩ := gdn h
  refine z_sld C (pc1 := 541) d_law_540 rfl g1 ?_
  refine z_aload_n C (pc1 := 542) 0 d_law_541 rfl rfl rfl ?_
  refine z_iload_n C (pc1 := 543) 3 d_law_542 rfl rfl rfl ?_
  refine z_iconst C (pc1 := 544) (v := 2) d_law_543 rfl (by decide) ?_
  refine z_iadd C (pc1 := 545) d_law_544 rfl ?_
  obtain ⟨g2, h⟩ := gdn h
  refine z_sld C (pc1 := 546) d_law_545 rfl g2 ?_
  refine z_aload_n C (pc1 := 547) 0 d_law_546 rfl rfl rfl ?_
  refine z_iload_n C (pc1 := 548) 3 d_law_547 rfl rfl rfl ?_
  refine z_iconst C (pc1 := 549) (v := 3) d_law_548 rfl (by decide) ?_
  refine z_iadd C (pc1 := 550) d_law_549 rfl ?_
  obtain ⟨g3, h⟩ := gdn h
  refine z_sld C (pc1 := 551) d_law_550 rfl g3 ?_
  refine z_aload_n C (pc1 := 552) 0 d_law_551 rfl rfl rfl ?_
  refine z_iload_n C (pc1 := 553) 3 d_law_552 rfl rfl rfl ?_
  refine z_iconst C (pc1 := 554) (v := 4) d_law_553 rfl (by decide) ?_
  refine z_iadd C (pc1 := 555) d_law_554 rfl ?_
  obtain ⟨g4, h⟩ := gdn h
  refine z_sld C (pc1 := 556) d_law_555 rfl g4 ?_
  obtain ⟨r6, M7, hq5, h⟩ := bnd2 h
  refine z_callV C (E' := (0, 0, 447)) (pc1 := 559) (As := [.int (xs ((i + 1) : Int32).toNatClampNeg), .int (xs ((i + 2) : Int32).toNatClampNeg), .int (xs ((i + 3) : Int32).toNatClampNeg), .int (xs ((i + 4) : Int32).toNatClampNeg)]) (rest := []) d_law_556 rfl mo_Law0_70 mi_Main_pot mv_Main_pot sh_0 (by decide) rfl ⟨Nat.le_of_ble_eq_true rfl, Nat.le_of_ble_eq_true rfl⟩ rfl rfl (Nat.le_of_ble_eq_true rfl) ⟨Nat.le_of_ble_eq_true rfl, Nat.le_of_ble_eq_true rfl⟩ rfl ?_
  refine f_Main_pot hld hq5 ?_
  show Zw l p e s m below meth c bs Lx xs D cA 447 23912 559 [(0, .ref bs), (1, .ref (s.heap.size + 0)), (2, .ref (s.heap.size + 401)), (3, .int i)] [.int r6] M7 L (rf ld)
  refine z_pop C (pc1 := 560) d_law_559 rfl rfl ?_
  refine z_aload_n C (pc1 := 561) 2 d_law_560 rfl rfl rfl ?_
  refine z_aload_n C (pc1 := 562) 0 d_law_561 rfl rfl rfl ?_
  refine z_iload_n C (pc1 := 563) 3 d_law_562 rfl rfl rfl ?_
  refine z_iconst C (pc1 := 564) (v := 1) d_law_563 rfl (by decide) ?_
  refine z_iadd C (pc1 := 565) d_law_564 rfl ?_
  obtain ⟨g8, h⟩ := gdn h
  refine z_sld C (pc1 := 566) d_law_565 rfl g8 ?_
  refine z_aload_n C (pc1 := 567) 0 d_law_566 rfl rfl rfl ?_
  refine z_iload_n C (pc1 := 568) 3 d_law_567 rfl rfl rfl ?_
  refine z_iconst C (pc1 := 569) (v := 2) d_law_568 rfl (by decide) ?_
  refine z_iadd C (pc1 := 570) d_law_569 rfl ?_
  obtain ⟨g9, h⟩ := gdn h
  refine z_sld C (pc1 := 571) d_law_570 rfl g9 ?_
  refine z_aload_n C (pc1 := 572) 0 d_law_571 rfl rfl rfl ?_
  refine z_iload_n C (pc1 := 573) 3 d_law_572 rfl rfl rfl ?_
  refine z_iconst C (pc1 := 574) (v := 3) d_law_573 rfl (by decide) ?_
  refine z_iadd C (pc1 := 575) d_law_574 rfl ?_
  obtain ⟨g10, h⟩ := gdn h
  refine z_sld C (pc1 := 576) d_law_575 rfl g10 ?_
  refine z_aload_n C (pc1 := 577) 0 d_law_576 rfl rfl rfl ?_
  refine z_iload_n C (pc1 := 578) 3 d_law_577 rfl rfl rfl ?_
  refine z_iconst C (pc1 := 579) (v := 4) d_law_578 rfl (by decide) ?_
  refine z_iadd C (pc1 := 580) d_law_579 rfl ?_
  obtain ⟨g11, h⟩ := gdn h
  refine z_sld C (pc1 := 581) d_law_580 rfl g11 ?_
  obtain ⟨r13, M14, hq12, h⟩ := bnd2 h
  refine z_callV C (E' := (0, 0, 447)) (pc1 := 584) (As := [.int (xs ((i + 1) : Int32).toNatClampNeg), .int (xs ((i + 2) : Int32).toNatClampNeg), .int (xs ((i + 3) : Int32).toNatClampNeg), .int (xs ((i + 4) : Int32).toNatClampNeg)]) (rest := []) d_law_581 rfl mo_Law0_74 mi_Mod_pot mv_Mod_pot sh_401 (by decide) rfl ⟨Nat.le_of_ble_eq_true rfl, Nat.le_of_ble_eq_true rfl⟩ rfl rfl (Nat.le_of_ble_eq_true rfl) ⟨Nat.le_of_ble_eq_true rfl, Nat.le_of_ble_eq_true rfl⟩ rfl ?_
  refine f_Mod_pot hld hq12 ?_
  show Zw l p e s m below meth c bs Lx xs D cA 447 23912 584 [(0, .ref bs), (1, .ref (s.heap.size + 0)), (2, .ref (s.heap.size + 401)), (3, .int i)] [.int r13] M14 L (rf ld)
  refine z_pop C (pc1 := 585) d_law_584 rfl rfl ?_
  refine z_goto C (tgt := 1142) d_law_585 (by decide) ?_
  obtain ⟨x15, ex15, h⟩ := ltI h
  refine z_iinc C (pc1 := 1145) (v := x15) (lv' := [(0, .ref bs), (1, .ref (s.heap.size + 0)), (2, .ref (s.heap.size + 401)), (3, .int x15)]) d_law_1142 rfl 3 rfl (by rw [ex15]; rfl) (by decide) [1, 2, 3, 0] rfl ?_
  refine z_goto C (tgt := 18) d_law_1145 (by decide) ?_
  exact hK _ _ _ _ hld h
def C_law_14 (xs : Nat → Int32) (Lx : Nat) (K : Int32 → gM → gL → Nat → Option Int32) (i : Int32) (M : gM) (L : gL) (ld : Nat) : Option Int32 :=
  (if ((i + 1) : Int32) < 0 ∨ Lx ≤ ((i + 1) : Int32).toNatClampNeg then none else (if ((i + 2) : Int32) < 0 ∨ Lx ≤ ((i + 2) : Int32).toNatClampNeg then none else bI2 (F_Main_pinch ld (xs ((i + 1) : Int32).toNatClampNeg) (xs ((i + 2) : Int32).toNatClampNeg) M) (fun r4 M5 => (if ((i + 1) : Int32) < 0 ∨ Lx ≤ ((i + 1) : Int32).toNatClampNeg then none else (if ((i + 2) : Int32) < 0 ∨ Lx ≤ ((i + 2) : Int32).toNatClampNeg then none else bI2 (F_Mod_pinch (xs ((i + 1) : Int32).toNatClampNeg) (xs ((i + 2) : Int32).toNatClampNeg) M5) (fun r9 M10 => nmI (i + 6) (fun x11 => K x11 M10 L ld)))))))
set_option maxHeartbeats 4000000 in
set_option maxRecDepth 20000 in
theorem c_law_14 {l : Launch} {p : Program} {e : Env} {s : State} {m : MethodId} {below : List Frame} {meth : Method} {c : Code} {bs Lx : Nat} {xs : Nat → Int32} {D : va_G} {cA : Nat → ClassId} (C : ZC p s m meth c bs Lx xs D cA) (K : Int32 → gM → gL → Nat → Option Int32) (hK : ∀ (i : Int32) (M : gM) (L : gL) (ld : Nat), isLa ld → K i M L ld = some 1 → Zw l p e s m below meth c bs Lx xs D cA 447 23912 18 [(0, .ref bs), (1, .ref (s.heap.size + 0)), (2, .ref (s.heap.size + 401)), (3, .int i)] [] M L (rf ld)) {i : Int32} {M : gM} {L : gL} {ld : Nat} (hld : isLa ld) (h : C_law_14 xs Lx K i M L ld = some 1) : Zw l p e s m below meth c bs Lx xs D cA 447 23912 588 [(0, .ref bs), (1, .ref (s.heap.size + 0)), (2, .ref (s.heap.size + 401)), (3, .int i)] [] M L (rf ld) := by
  unfold C_law_14 at h
  refine z_aload_n C (pc1 := 589) 1 d_law_588 rfl rfl rfl ?_
  refine z_aload_n C (pc1 := 590) 0 d_law_589 rfl rfl rfl ?_
  refine z_iload_n C (pc1 := 591) 3 d_law_590 rfl rfl rfl ?_
  refine z_iconst C (pc1 := 592) (v := 1) d_law_591 rfl (by decide) ?_
  refine z_iadd C (pc1 := 593) d_law_592 rfl ?_
  obtain ⟨g1, h⟩ := gdn h
  refine z_sld C (pc1 := 594) d_law_593 rfl g1 ?_
  refine z_aload_n C (pc1 := 595) 0 d_law_594 rfl rfl rfl ?_
  refine z_iload_n C (pc1 := 596) 3 d_law_595 rfl rfl rfl ?_
  refine z_iconst C (pc1 := 597) (v := 2) d_law_596 rfl (by decide) ?_
  refine z_iadd C (pc1 := 598) d_law_597 rfl ?_
  obtain ⟨g2, h⟩ := gdn h
  refine z_sld C (pc1 := 599) d_law_598 rfl g2 ?_
  obtain ⟨r4, M5, hq3, h⟩ := bnd2 h
  refine z_callV C (E' := (0, 0, 447)) (pc1 := 602) (As := [.int (xs ((i + 1) : Int32).toNatClampNeg), .int (xs ((i + 2) : Int32).toNatClampNeg)]) (rest := []) d_law_599 rfl mo_Law0_75 mi_Main_pinch mv_Main_pinch sh_0 (by decide) rfl ⟨Nat.le_of_ble_eq_true rfl, Nat.le_of_ble_eq_true rfl⟩ rfl rfl (Nat.le_of_ble_eq_true rfl) ⟨Nat.le_of_ble_eq_true rfl, Nat.le_of_ble_eq_true rfl⟩ rfl ?_
  refine f_Main_pinch hld hq3 ?_
  show Zw l p e s m below meth c bs Lx xs D cA 447 23912 602 [(0, .ref bs), (1, .ref (s.heap.size + 0)), (2, .ref (s.heap.size + 401)), (3, .int i)] [.int r4] M5 L (rf ld)
  refine z_pop C (pc1 := 603) d_law_602 rfl rfl ?_
  refine z_aload_n C (pc1 := 604) 2 d_law_603 rfl rfl rfl ?_
  refine z_aload_n C (pc1 := 605) 0 d_law_604 rfl rfl rfl ?_
  refine z_iload_n C (pc1 := 606) 3 d_law_605 rfl rfl rfl ?_
  refine z_iconst C (pc1 := 607) (v := 1) d_law_606 rfl (by decide) ?_
  refine z_iadd C (pc1 := 608) d_law_607 rfl ?_
  obtain ⟨g6, h⟩ := gdn h
  refine z_sld C (pc1 := 609) d_law_608 rfl g6 ?_
  refine z_aload_n C (pc1 := 610) 0 d_law_609 rfl rfl rfl ?_
  refine z_iload_n C (pc1 := 611) 3 d_law_610 rfl rfl rfl ?_
  refine z_iconst C (pc1 := 612) (v := 2) d_law_611 rfl (by decide) ?_
  refine z_iadd C (pc1 := 613) d_law_612 rfl ?_
  obtain ⟨g7, h⟩ := gdn h
  refine z_sld C (pc1 := 614) d_law_613 rfl g7 ?_
  obtain ⟨r9, M10, hq8, h⟩ := bnd2 h
  refine z_callV C (E' := (0, 0, 447)) (pc1 := 617) (As := [.int (xs ((i + 1) : Int32).toNatClampNeg), .int (xs ((i + 2) : Int32).toNatClampNeg)]) (rest := []) d_law_614 rfl mo_Law0_78 mi_Mod_pinch mv_Mod_pinch sh_401 (by decide) rfl ⟨Nat.le_of_ble_eq_true rfl, Nat.le_of_ble_eq_true rfl⟩ rfl rfl (Nat.le_of_ble_eq_true rfl) ⟨Nat.le_of_ble_eq_true rfl, Nat.le_of_ble_eq_true rfl⟩ rfl ?_
  refine f_Mod_pinch hld hq8 ?_
  show Zw l p e s m below meth c bs Lx xs D cA 447 23912 617 [(0, .ref bs), (1, .ref (s.heap.size + 0)), (2, .ref (s.heap.size + 401)), (3, .int i)] [.int r9] M10 L (rf ld)
  refine z_pop C (pc1 := 618) d_law_617 rfl rfl ?_
  refine z_goto C (tgt := 1142) d_law_618 (by decide) ?_
  obtain ⟨x11, ex11, h⟩ := ltI h
  refine z_iinc C (pc1 := 1145) (v := x11) (lv' := [(0, .ref bs), (1, .ref (s.heap.size + 0)), (2, .ref (s.heap.size + 401)), (3, .int x11)]) d_law_1142 rfl 3 rfl (by rw [ex11]; rfl) (by decide) [1, 2, 3, 0] rfl ?_
  refine z_goto C (tgt := 18) d_law_1145 (by decide) ?_
  exact hK _ _ _ _ hld h
def C_law_15 (xs : Nat → Int32) (Lx : Nat) (K : Int32 → gM → gL → Nat → Option Int32) (i : Int32) (M : gM) (L : gL) (ld : Nat) : Option Int32 :=
  (if ((i + 1) : Int32) < 0 ∨ Lx ≤ ((i + 1) : Int32).toNatClampNeg then none else (if ((i + 2) : Int32) < 0 ∨ Lx ≤ ((i + 2) : Int32).toNatClampNeg then none else bI2 (F_Main_freest ld (xs ((i + 1) : Int32).toNatClampNeg) (xs ((i + 2) : Int32).toNatClampNeg) M) (fun r4 M5 => (if ((i + 1) : Int32) < 0 ∨ Lx ≤ ((i + 1) : Int32).toNatClampNeg then none else (if ((i + 2) : Int32) < 0 ∨ Lx ≤ ((i + 2) : Int32).toNatClampNeg then none else bI2 (F_Mod_freest (xs ((i + 1) : Int32).toNatClampNeg) (xs ((i + 2) : Int32).toNatClampNeg) M5) (fun r9 M10 => nmI (i + 6) (fun x11 => K x11 M10 L ld)))))))
set_option maxHeartbeats 4000000 in
set_option maxRecDepth 20000 in
theorem c_law_15 {l : Launch} {p : Program} {e : Env} {s : State} {m : MethodId} {below : List Frame} {meth : Method} {c : Code} {bs Lx : Nat} {xs : Nat → Int32} {D : va_G} {cA : Nat → ClassId} (C : ZC p s m meth c bs Lx xs D cA) (K : Int32 → gM → gL → Nat → Option Int32) (hK : ∀ (i : Int32) (M : gM) (L : gL) (ld : Nat), isLa ld → K i M L ld = some 1 → Zw l p e s m below meth c bs Lx xs D cA 447 23912 18 [(0, .ref bs), (1, .ref (s.heap.size + 0)), (2, .ref (s.heap.size + 401)), (3, .int i)] [] M L (rf ld)) {i : Int32} {M : gM} {L : gL} {ld : Nat} (hld : isLa ld) (h : C_law_15 xs Lx K i M L ld = some 1) : Zw l p e s m below meth c bs Lx xs D cA 447 23912 621 [(0, .ref bs), (1, .ref (s.heap.size + 0)), (2, .ref (s.heap.size + 401)), (3, .int i)] [] M L (rf ld) := by
  unfold C_law_15 at h
  refine z_aload_n C (pc1 := 622) 1 d_law_621 rfl rfl rfl ?_
  refine z_aload_n C (pc1 := 623) 0 d_law_622 rfl rfl rfl ?_
  refine z_iload_n C (pc1 := 624) 3 d_law_623 rfl rfl rfl ?_
  refine z_iconst C (pc1 := 625) (v := 1) d_law_624 rfl (by decide) ?_
  refine z_iadd C (pc1 := 626) d_law_625 rfl ?_
  obtain ⟨g1, h⟩ := gdn h
  refine z_sld C (pc1 := 627) d_law_626 rfl g1 ?_
  refine z_aload_n C (pc1 := 628) 0 d_law_627 rfl rfl rfl ?_
  refine z_iload_n C (pc1 := 629) 3 d_law_628 rfl rfl rfl ?_
  refine z_iconst C (pc1 := 630) (v := 2) d_law_629 rfl (by decide) ?_
  refine z_iadd C (pc1 := 631) d_law_630 rfl ?_
  obtain ⟨g2, h⟩ := gdn h
  refine z_sld C (pc1 := 632) d_law_631 rfl g2 ?_
  obtain ⟨r4, M5, hq3, h⟩ := bnd2 h
  refine z_callV C (E' := (0, 0, 447)) (pc1 := 635) (As := [.int (xs ((i + 1) : Int32).toNatClampNeg), .int (xs ((i + 2) : Int32).toNatClampNeg)]) (rest := []) d_law_632 rfl mo_Law0_79 mi_Main_freest mv_Main_freest sh_0 (by decide) rfl ⟨Nat.le_of_ble_eq_true rfl, Nat.le_of_ble_eq_true rfl⟩ rfl rfl (Nat.le_of_ble_eq_true rfl) ⟨Nat.le_of_ble_eq_true rfl, Nat.le_of_ble_eq_true rfl⟩ rfl ?_
  refine f_Main_freest hld hq3 ?_
  show Zw l p e s m below meth c bs Lx xs D cA 447 23912 635 [(0, .ref bs), (1, .ref (s.heap.size + 0)), (2, .ref (s.heap.size + 401)), (3, .int i)] [.int r4] M5 L (rf ld)
  refine z_pop C (pc1 := 636) d_law_635 rfl rfl ?_
  refine z_aload_n C (pc1 := 637) 2 d_law_636 rfl rfl rfl ?_
  refine z_aload_n C (pc1 := 638) 0 d_law_637 rfl rfl rfl ?_
  refine z_iload_n C (pc1 := 639) 3 d_law_638 rfl rfl rfl ?_
  refine z_iconst C (pc1 := 640) (v := 1) d_law_639 rfl (by decide) ?_
  refine z_iadd C (pc1 := 641) d_law_640 rfl ?_
  obtain ⟨g6, h⟩ := gdn h
  refine z_sld C (pc1 := 642) d_law_641 rfl g6 ?_
  refine z_aload_n C (pc1 := 643) 0 d_law_642 rfl rfl rfl ?_
  refine z_iload_n C (pc1 := 644) 3 d_law_643 rfl rfl rfl ?_
  refine z_iconst C (pc1 := 645) (v := 2) d_law_644 rfl (by decide) ?_
  refine z_iadd C (pc1 := 646) d_law_645 rfl ?_
  obtain ⟨g7, h⟩ := gdn h
  refine z_sld C (pc1 := 647) d_law_646 rfl g7 ?_
  obtain ⟨r9, M10, hq8, h⟩ := bnd2 h
  refine z_callV C (E' := (0, 0, 447)) (pc1 := 650) (As := [.int (xs ((i + 1) : Int32).toNatClampNeg), .int (xs ((i + 2) : Int32).toNatClampNeg)]) (rest := []) d_law_647 rfl mo_Law0_82 mi_Mod_freest mv_Mod_freest sh_401 (by decide) rfl ⟨Nat.le_of_ble_eq_true rfl, Nat.le_of_ble_eq_true rfl⟩ rfl rfl (Nat.le_of_ble_eq_true rfl) ⟨Nat.le_of_ble_eq_true rfl, Nat.le_of_ble_eq_true rfl⟩ rfl ?_
  refine f_Mod_freest hld hq8 ?_
  show Zw l p e s m below meth c bs Lx xs D cA 447 23912 650 [(0, .ref bs), (1, .ref (s.heap.size + 0)), (2, .ref (s.heap.size + 401)), (3, .int i)] [.int r9] M10 L (rf ld)
  refine z_pop C (pc1 := 651) d_law_650 rfl rfl ?_
  refine z_goto C (tgt := 1142) d_law_651 (by decide) ?_
  obtain ⟨x11, ex11, h⟩ := ltI h
  refine z_iinc C (pc1 := 1145) (v := x11) (lv' := [(0, .ref bs), (1, .ref (s.heap.size + 0)), (2, .ref (s.heap.size + 401)), (3, .int x11)]) d_law_1142 rfl 3 rfl (by rw [ex11]; rfl) (by decide) [1, 2, 3, 0] rfl ?_
  refine z_goto C (tgt := 18) d_law_1145 (by decide) ?_
  exact hK _ _ _ _ hld h
def C_law_16 (xs : Nat → Int32) (Lx : Nat) (K : Int32 → gM → gL → Nat → Option Int32) (i : Int32) (M : gM) (L : gL) (ld : Nat) : Option Int32 :=
  bI2 (F_Main_supper ld M) (fun r2 M3 => bI2 (F_Mod_supper M3) (fun r5 M6 => nmI (i + 6) (fun x7 => K x7 M6 L ld)))
set_option maxHeartbeats 4000000 in
set_option maxRecDepth 20000 in
theorem c_law_16 {l : Launch} {p : Program} {e : Env} {s : State} {m : MethodId} {below : List Frame} {meth : Method} {c : Code} {bs Lx : Nat} {xs : Nat → Int32} {D : va_G} {cA : Nat → ClassId} (C : ZC p s m meth c bs Lx xs D cA) (K : Int32 → gM → gL → Nat → Option Int32) (hK : ∀ (i : Int32) (M : gM) (L : gL) (ld : Nat), isLa ld → K i M L ld = some 1 → Zw l p e s m below meth c bs Lx xs D cA 447 23912 18 [(0, .ref bs), (1, .ref (s.heap.size + 0)), (2, .ref (s.heap.size + 401)), (3, .int i)] [] M L (rf ld)) {i : Int32} {M : gM} {L : gL} {ld : Nat} (hld : isLa ld) (h : C_law_16 xs Lx K i M L ld = some 1) : Zw l p e s m below meth c bs Lx xs D cA 447 23912 654 [(0, .ref bs), (1, .ref (s.heap.size + 0)), (2, .ref (s.heap.size + 401)), (3, .int i)] [] M L (rf ld) := by
  unfold C_law_16 at h
  refine z_aload_n C (pc1 := 655) 1 d_law_654 rfl rfl rfl ?_
  obtain ⟨r2, M3, hq1, h⟩ := bnd2 h
  refine z_callV C (E' := (0, 0, 447)) (pc1 := 658) (As := []) (rest := []) d_law_655 rfl mo_Law0_83 mi_Main_supper mv_Main_supper sh_0 (by decide) rfl ⟨Nat.le_of_ble_eq_true rfl, Nat.le_of_ble_eq_true rfl⟩ rfl rfl (Nat.le_of_ble_eq_true rfl) ⟨Nat.le_of_ble_eq_true rfl, Nat.le_of_ble_eq_true rfl⟩ rfl ?_
  refine f_Main_supper hld hq1 ?_
  show Zw l p e s m below meth c bs Lx xs D cA 447 23912 658 [(0, .ref bs), (1, .ref (s.heap.size + 0)), (2, .ref (s.heap.size + 401)), (3, .int i)] [.int r2] M3 L (rf ld)
  refine z_pop C (pc1 := 659) d_law_658 rfl rfl ?_
  refine z_aload_n C (pc1 := 660) 2 d_law_659 rfl rfl rfl ?_
  obtain ⟨r5, M6, hq4, h⟩ := bnd2 h
  refine z_callV C (E' := (0, 0, 447)) (pc1 := 663) (As := []) (rest := []) d_law_660 rfl mo_Law0_86 mi_Mod_supper mv_Mod_supper sh_401 (by decide) rfl ⟨Nat.le_of_ble_eq_true rfl, Nat.le_of_ble_eq_true rfl⟩ rfl rfl (Nat.le_of_ble_eq_true rfl) ⟨Nat.le_of_ble_eq_true rfl, Nat.le_of_ble_eq_true rfl⟩ rfl ?_
  refine f_Mod_supper hld hq4 ?_
  show Zw l p e s m below meth c bs Lx xs D cA 447 23912 663 [(0, .ref bs), (1, .ref (s.heap.size + 0)), (2, .ref (s.heap.size + 401)), (3, .int i)] [.int r5] M6 L (rf ld)
  refine z_pop C (pc1 := 664) d_law_663 rfl rfl ?_
  refine z_goto C (tgt := 1142) d_law_664 (by decide) ?_
  obtain ⟨x7, ex7, h⟩ := ltI h
  refine z_iinc C (pc1 := 1145) (v := x7) (lv' := [(0, .ref bs), (1, .ref (s.heap.size + 0)), (2, .ref (s.heap.size + 401)), (3, .int x7)]) d_law_1142 rfl 3 rfl (by rw [ex7]; rfl) (by decide) [1, 2, 3, 0] rfl ?_
  refine z_goto C (tgt := 18) d_law_1145 (by decide) ?_
  exact hK _ _ _ _ hld h
def C_law_17 (xs : Nat → Int32) (Lx : Nat) (K : Int32 → gM → gL → Nat → Option Int32) (i : Int32) (M : gM) (L : gL) (ld : Nat) : Option Int32 :=
  (if ((i + 1) : Int32) < 0 ∨ Lx ≤ ((i + 1) : Int32).toNatClampNeg then none else (if ((i + 2) : Int32) < 0 ∨ Lx ≤ ((i + 2) : Int32).toNatClampNeg then none else (if ((i + 3) : Int32) < 0 ∨ Lx ≤ ((i + 3) : Int32).toNatClampNeg then none else bI2 (F_Main_feud ld (xs ((i + 1) : Int32).toNatClampNeg) (xs ((i + 2) : Int32).toNatClampNeg) (xs ((i + 3) : Int32).toNatClampNeg) M) (fun r5 M6 => (if ((i + 1) : Int32) < 0 ∨ Lx ≤ ((i + 1) : Int32).toNatClampNeg then none else (if ((i + 2) : Int32) < 0 ∨ Lx ≤ ((i + 2) : Int32).toNatClampNeg then none else (if ((i + 3) : Int32) < 0 ∨ Lx ≤ ((i + 3) : Int32).toNatClampNeg then none else bI2 (F_Mod_feud (xs ((i + 1) : Int32).toNatClampNeg) (xs ((i + 2) : Int32).toNatClampNeg) (xs ((i + 3) : Int32).toNatClampNeg) M6) (fun r11 M12 => nmI (i + 6) (fun x13 => K x13 M12 L ld)))))))))
set_option maxHeartbeats 4000000 in
set_option maxRecDepth 20000 in
theorem c_law_17 {l : Launch} {p : Program} {e : Env} {s : State} {m : MethodId} {below : List Frame} {meth : Method} {c : Code} {bs Lx : Nat} {xs : Nat → Int32} {D : va_G} {cA : Nat → ClassId} (C : ZC p s m meth c bs Lx xs D cA) (K : Int32 → gM → gL → Nat → Option Int32) (hK : ∀ (i : Int32) (M : gM) (L : gL) (ld : Nat), isLa ld → K i M L ld = some 1 → Zw l p e s m below meth c bs Lx xs D cA 447 23912 18 [(0, .ref bs), (1, .ref (s.heap.size + 0)), (2, .ref (s.heap.size + 401)), (3, .int i)] [] M L (rf ld)) {i : Int32} {M : gM} {L : gL} {ld : Nat} (hld : isLa ld) (h : C_law_17 xs Lx K i M L ld = some 1) : Zw l p e s m below meth c bs Lx xs D cA 447 23912 667 [(0, .ref bs), (1, .ref (s.heap.size + 0)), (2, .ref (s.heap.size + 401)), (3, .int i)] [] M L (rf ld) := by
  unfold C_law_17 at h
  refine z_aload_n C (pc1 := 668) 1 d_law_667 rfl rfl rfl ?_
  refine z_aload_n C (pc1 := 669) 0 d_law_668 rfl rfl rfl ?_
  refine z_iload_n C (pc1 := 670) 3 d_law_669 rfl rfl rfl ?_
  refine z_iconst C (pc1 := 671) (v := 1) d_law_670 rfl (by decide) ?_
  refine z_iadd C (pc1 := 672) d_law_671 rfl ?_
  obtain ⟨g1, h⟩ := gdn h
  refine z_sld C (pc1 := 673) d_law_672 rfl g1 ?_
  refine z_aload_n C (pc1 := 674) 0 d_law_673 rfl rfl rfl ?_
  refine z_iload_n C (pc1 := 675) 3 d_law_674 rfl rfl rfl ?_
  refine z_iconst C (pc1 := 676) (v := 2) d_law_675 rfl (by decide) ?_
  refine z_iadd C (pc1 := 677) d_law_676 rfl ?_
  obtain ⟨g2, h⟩ := gdn h
  refine z_sld C (pc1 := 678) d_law_677 rfl g2 ?_
  refine z_aload_n C (pc1 := 679) 0 d_law_678 rfl rfl rfl ?_
  refine z_iload_n C (pc1 := 680) 3 d_law_679 rfl rfl rfl ?_
  refine z_iconst C (pc1 := 681) (v := 3) d_law_680 rfl (by decide) ?_
  refine z_iadd C (pc1 := 682) d_law_681 rfl ?_
  obtain ⟨g3, h⟩ := gdn h
  refine z_sld C (pc1 := 683) d_law_682 rfl g3 ?_
  obtain ⟨r5, M6, hq4, h⟩ := bnd2 h
  refine z_callV C (E' := (0, 0, 447)) (pc1 := 686) (As := [.int (xs ((i + 1) : Int32).toNatClampNeg), .int (xs ((i + 2) : Int32).toNatClampNeg), .int (xs ((i + 3) : Int32).toNatClampNeg)]) (rest := []) d_law_683 rfl mo_Law0_87 mi_Main_feud mv_Main_feud sh_0 (by decide) rfl ⟨Nat.le_of_ble_eq_true rfl, Nat.le_of_ble_eq_true rfl⟩ rfl rfl (Nat.le_of_ble_eq_true rfl) ⟨Nat.le_of_ble_eq_true rfl, Nat.le_of_ble_eq_true rfl⟩ rfl ?_
  refine f_Main_feud hld hq4 ?_
  show Zw l p e s m below meth c bs Lx xs D cA 447 23912 686 [(0, .ref bs), (1, .ref (s.heap.size + 0)), (2, .ref (s.heap.size + 401)), (3, .int i)] [.int r5] M6 L (rf ld)
  refine z_pop C (pc1 := 687) d_law_686 rfl rfl ?_
  refine z_aload_n C (pc1 := 688) 2 d_law_687 rfl rfl rfl ?_
  refine z_aload_n C (pc1 := 689) 0 d_law_688 rfl rfl rfl ?_
  refine z_iload_n C (pc1 := 690) 3 d_law_689 rfl rfl rfl ?_
  refine z_iconst C (pc1 := 691) (v := 1) d_law_690 rfl (by decide) ?_
  refine z_iadd C (pc1 := 692) d_law_691 rfl ?_
  obtain ⟨g7, h⟩ := gdn h
  refine z_sld C (pc1 := 693) d_law_692 rfl g7 ?_
  refine z_aload_n C (pc1 := 694) 0 d_law_693 rfl rfl rfl ?_
  refine z_iload_n C (pc1 := 695) 3 d_law_694 rfl rfl rfl ?_
  refine z_iconst C (pc1 := 696) (v := 2) d_law_695 rfl (by decide) ?_
  refine z_iadd C (pc1 := 697) d_law_696 rfl ?_
  obtain ⟨g8, h⟩ := gdn h
  refine z_sld C (pc1 := 698) d_law_697 rfl g8 ?_
  refine z_aload_n C (pc1 := 699) 0 d_law_698 rfl rfl rfl ?_
  refine z_iload_n C (pc1 := 700) 3 d_law_699 rfl rfl rfl ?_
  refine z_iconst C (pc1 := 701) (v := 3) d_law_700 rfl (by decide) ?_
  refine z_iadd C (pc1 := 702) d_law_701 rfl ?_
  obtain ⟨g9, h⟩ := gdn h
  refine z_sld C (pc1 := 703) d_law_702 rfl g9 ?_
  obtain ⟨r11, M12, hq10, h⟩ := bnd2 h
  refine z_callV C (E' := (0, 0, 447)) (pc1 := 706) (As := [.int (xs ((i + 1) : Int32).toNatClampNeg), .int (xs ((i + 2) : Int32).toNatClampNeg), .int (xs ((i + 3) : Int32).toNatClampNeg)]) (rest := []) d_law_703 rfl mo_Law0_91 mi_Mod_feud mv_Mod_feud sh_401 (by decide) rfl ⟨Nat.le_of_ble_eq_true rfl, Nat.le_of_ble_eq_true rfl⟩ rfl rfl (Nat.le_of_ble_eq_true rfl) ⟨Nat.le_of_ble_eq_true rfl, Nat.le_of_ble_eq_true rfl⟩ rfl ?_
  refine f_Mod_feud hld hq10 ?_
  show Zw l p e s m below meth c bs Lx xs D cA 447 23912 706 [(0, .ref bs), (1, .ref (s.heap.size + 0)), (2, .ref (s.heap.size + 401)), (3, .int i)] [.int r11] M12 L (rf ld)
  refine z_pop C (pc1 := 707) d_law_706 rfl rfl ?_
  refine z_goto C (tgt := 1142) d_law_707 (by decide) ?_
  obtain ⟨x13, ex13, h⟩ := ltI h
  refine z_iinc C (pc1 := 1145) (v := x13) (lv' := [(0, .ref bs), (1, .ref (s.heap.size + 0)), (2, .ref (s.heap.size + 401)), (3, .int x13)]) d_law_1142 rfl 3 rfl (by rw [ex13]; rfl) (by decide) [1, 2, 3, 0] rfl ?_
  refine z_goto C (tgt := 18) d_law_1145 (by decide) ?_
  exact hK _ _ _ _ hld h
def C_law_18 (xs : Nat → Int32) (Lx : Nat) (K : Int32 → gM → gL → Nat → Option Int32) (i : Int32) (M : gM) (L : gL) (ld : Nat) : Option Int32 :=
  (if ((i + 1) : Int32) < 0 ∨ Lx ≤ ((i + 1) : Int32).toNatClampNeg then none else (if ((i + 2) : Int32) < 0 ∨ Lx ≤ ((i + 2) : Int32).toNatClampNeg then none else (if ((i + 3) : Int32) < 0 ∨ Lx ≤ ((i + 3) : Int32).toNatClampNeg then none else (if ((i + 4) : Int32) < 0 ∨ Lx ≤ ((i + 4) : Int32).toNatClampNeg then none else bI2 (F_Main_menu ld (xs ((i + 1) : Int32).toNatClampNeg) (xs ((i + 2) : Int32).toNatClampNeg) (xs ((i + 3) : Int32).toNatClampNeg) (xs ((i + 4) : Int32).toNatClampNeg) M) (fun r6 M7 => (if ((i + 1) : Int32) < 0 ∨ Lx ≤ ((i + 1) : Int32).toNatClampNeg then none else (if ((i + 2) : Int32) < 0 ∨ Lx ≤ ((i + 2) : Int32).toNatClampNeg then none else (if ((i + 3) : Int32) < 0 ∨ Lx ≤ ((i + 3) : Int32).toNatClampNeg then none else (if ((i + 4) : Int32) < 0 ∨ Lx ≤ ((i + 4) : Int32).toNatClampNeg then none else bI2 (F_Mod_menu (xs ((i + 1) : Int32).toNatClampNeg) (xs ((i + 2) : Int32).toNatClampNeg) (xs ((i + 3) : Int32).toNatClampNeg) (xs ((i + 4) : Int32).toNatClampNeg) M7) (fun r13 M14 => nmI (i + 6) (fun x15 => K x15 M14 L ld)))))))))))
set_option maxHeartbeats 4000000 in
set_option maxRecDepth 20000 in
theorem c_law_18 {l : Launch} {p : Program} {e : Env} {s : State} {m : MethodId} {below : List Frame} {meth : Method} {c : Code} {bs Lx : Nat} {xs : Nat → Int32} {D : va_G} {cA : Nat → ClassId} (C : ZC p s m meth c bs Lx xs D cA) (K : Int32 → gM → gL → Nat → Option Int32) (hK : ∀ (i : Int32) (M : gM) (L : gL) (ld : Nat), isLa ld → K i M L ld = some 1 → Zw l p e s m below meth c bs Lx xs D cA 447 23912 18 [(0, .ref bs), (1, .ref (s.heap.size + 0)), (2, .ref (s.heap.size + 401)), (3, .int i)] [] M L (rf ld)) {i : Int32} {M : gM} {L : gL} {ld : Nat} (hld : isLa ld) (h : C_law_18 xs Lx K i M L ld = some 1) : Zw l p e s m below meth c bs Lx xs D cA 447 23912 710 [(0, .ref bs), (1, .ref (s.heap.size + 0)), (2, .ref (s.heap.size + 401)), (3, .int i)] [] M L (rf ld) := by
  unfold C_law_18 at h
  refine z_aload_n C (pc1 := 711) 1 d_law_710 rfl rfl rfl ?_
  refine z_aload_n C (pc1 := 712) 0 d_law_711 rfl rfl rfl ?_
  refine z_iload_n C (pc1 := 713) 3 d_law_712 rfl rfl rfl ?_
  refine z_iconst C (pc1 := 714) (v := 1) d_law_713 rfl (by decide) ?_
  refine z_iadd C (pc1 := 715) d_law_714 rfl ?_
  obtain ⟨g1, h⟩ := gdn h
  refine z_sld C (pc1 := 716) d_law_715 rfl g1 ?_
  refine z_aload_n C (pc1 := 717) 0 d_law_716 rfl rfl rfl ?_
  refine z_iload_n C (pc1 := 718) 3 d_law_717 rfl rfl rfl ?_
  refine z_iconst C (pc1 := 719) (v := 2) d_law_718 rfl (by decide) ?_
  refine z_iadd C (pc1 := 720) d_law_719 rfl ?_
  obtain ⟨g2, h⟩ := gdn h
  refine z_sld C (pc1 := 721) d_law_720 rfl g2 ?_
  refine z_aload_n C (pc1 := 722) 0 d_law_721 rfl rfl rfl ?_
  refine z_iload_n C (pc1 := 723) 3 d_law_722 rfl rfl rfl ?_
  refine z_iconst C (pc1 := 724) (v := 3) d_law_723 rfl (by decide) ?_
  refine z_iadd C (pc1 := 725) d_law_724 rfl ?_
  obtain ⟨g3, h⟩ := gdn h
  refine z_sld C (pc1 := 726) d_law_725 rfl g3 ?_
  refine z_aload_n C (pc1 := 727) 0 d_law_726 rfl rfl rfl ?_
  refine z_iload_n C (pc1 := 728) 3 d_law_727 rfl rfl rfl ?_
  refine z_iconst C (pc1 := 729) (v := 4) d_law_728 rfl (by decide) ?_
  refine z_iadd C (pc1 := 730) d_law_729 rfl ?_
  obtain ⟨g4, h⟩ := gdn h
  refine z_sld C (pc1 := 731) d_law_730 rfl g4 ?_
  obtain ⟨r6, M7, hq5, h⟩ := bnd2 h
  refine z_callV C (E' := (0, 0, 447)) (pc1 := 734) (As := [.int (xs ((i + 1) : Int32).toNatClampNeg), .int (xs ((i + 2) : Int32).toNatClampNeg), .int (xs ((i + 3) : Int32).toNatClampNeg), .int (xs ((i + 4) : Int32).toNatClampNeg)]) (rest := []) d_law_731 rfl mo_Law0_92 mi_Main_menu mv_Main_menu sh_0 (by decide) rfl ⟨Nat.le_of_ble_eq_true rfl, Nat.le_of_ble_eq_true rfl⟩ rfl rfl (Nat.le_of_ble_eq_true rfl) ⟨Nat.le_of_ble_eq_true rfl, Nat.le_of_ble_eq_true rfl⟩ rfl ?_
  refine f_Main_menu hld hq5 ?_
  show Zw l p e s m below meth c bs Lx xs D cA 447 23912 734 [(0, .ref bs), (1, .ref (s.heap.size + 0)), (2, .ref (s.heap.size + 401)), (3, .int i)] [.int r6] M7 L (rf ld)
  refine z_pop C (pc1 := 735) d_law_734 rfl rfl ?_
  refine z_aload_n C (pc1 := 736) 2 d_law_735 rfl rfl rfl ?_
  refine z_aload_n C (pc1 := 737) 0 d_law_736 rfl rfl rfl ?_
  refine z_iload_n C (pc1 := 738) 3 d_law_737 rfl rfl rfl ?_
  refine z_iconst C (pc1 := 739) (v := 1) d_law_738 rfl (by decide) ?_
  refine z_iadd C (pc1 := 740) d_law_739 rfl ?_
  obtain ⟨g8, h⟩ := gdn h
  refine z_sld C (pc1 := 741) d_law_740 rfl g8 ?_
  refine z_aload_n C (pc1 := 742) 0 d_law_741 rfl rfl rfl ?_
  refine z_iload_n C (pc1 := 743) 3 d_law_742 rfl rfl rfl ?_
  refine z_iconst C (pc1 := 744) (v := 2) d_law_743 rfl (by decide) ?_
  refine z_iadd C (pc1 := 745) d_law_744 rfl ?_
  obtain ⟨g9, h⟩ := gdn h
  refine z_sld C (pc1 := 746) d_law_745 rfl g9 ?_
  refine z_aload_n C (pc1 := 747) 0 d_law_746 rfl rfl rfl ?_
  refine z_iload_n C (pc1 := 748) 3 d_law_747 rfl rfl rfl ?_
  refine z_iconst C (pc1 := 749) (v := 3) d_law_748 rfl (by decide) ?_
  refine z_iadd C (pc1 := 750) d_law_749 rfl ?_
  obtain ⟨g10, h⟩ := gdn h
  refine z_sld C (pc1 := 751) d_law_750 rfl g10 ?_
  refine z_aload_n C (pc1 := 752) 0 d_law_751 rfl rfl rfl ?_
  refine z_iload_n C (pc1 := 753) 3 d_law_752 rfl rfl rfl ?_
  refine z_iconst C (pc1 := 754) (v := 4) d_law_753 rfl (by decide) ?_
  refine z_iadd C (pc1 := 755) d_law_754 rfl ?_
  obtain ⟨g11, h⟩ := gdn h
  refine z_sld C (pc1 := 756) d_law_755 rfl g11 ?_
  obtain ⟨r13, M14, hq12, h⟩ := bnd2 h
  refine z_callV C (E' := (0, 0, 447)) (pc1 := 759) (As := [.int (xs ((i + 1) : Int32).toNatClampNeg), .int (xs ((i + 2) : Int32).toNatClampNeg), .int (xs ((i + 3) : Int32).toNatClampNeg), .int (xs ((i + 4) : Int32).toNatClampNeg)]) (rest := []) d_law_756 rfl mo_Law0_95 mi_Mod_menu mv_Mod_menu sh_401 (by decide) rfl ⟨Nat.le_of_ble_eq_true rfl, Nat.le_of_ble_eq_true rfl⟩ rfl rfl (Nat.le_of_ble_eq_true rfl) ⟨Nat.le_of_ble_eq_true rfl, Nat.le_of_ble_eq_true rfl⟩ rfl ?_
  refine f_Mod_menu hld hq12 ?_
  show Zw l p e s m below meth c bs Lx xs D cA 447 23912 759 [(0, .ref bs), (1, .ref (s.heap.size + 0)), (2, .ref (s.heap.size + 401)), (3, .int i)] [.int r13] M14 L (rf ld)
  refine z_pop C (pc1 := 760) d_law_759 rfl rfl ?_
  refine z_goto C (tgt := 1142) d_law_760 (by decide) ?_
  obtain ⟨x15, ex15, h⟩ := ltI h
  refine z_iinc C (pc1 := 1145) (v := x15) (lv' := [(0, .ref bs), (1, .ref (s.heap.size + 0)), (2, .ref (s.heap.size + 401)), (3, .int x15)]) d_law_1142 rfl 3 rfl (by rw [ex15]; rfl) (by decide) [1, 2, 3, 0] rfl ?_
  refine z_goto C (tgt := 18) d_law_1145 (by decide) ?_
  exact hK _ _ _ _ hld h
def C_law_19 (xs : Nat → Int32) (Lx : Nat) (K : Int32 → gM → gL → Nat → Option Int32) (i : Int32) (M : gM) (L : gL) (ld : Nat) : Option Int32 :=
  (if ((i + 1) : Int32) < 0 ∨ Lx ≤ ((i + 1) : Int32).toNatClampNeg then none else bI2 (F_Main_often ld (xs ((i + 1) : Int32).toNatClampNeg) M) (fun r3 M4 => (if ((i + 1) : Int32) < 0 ∨ Lx ≤ ((i + 1) : Int32).toNatClampNeg then none else bI2 (F_Mod_often (xs ((i + 1) : Int32).toNatClampNeg) M4) (fun r7 M8 => nmI (i + 6) (fun x9 => K x9 M8 L ld)))))
set_option maxHeartbeats 4000000 in
set_option maxRecDepth 20000 in
theorem c_law_19 {l : Launch} {p : Program} {e : Env} {s : State} {m : MethodId} {below : List Frame} {meth : Method} {c : Code} {bs Lx : Nat} {xs : Nat → Int32} {D : va_G} {cA : Nat → ClassId} (C : ZC p s m meth c bs Lx xs D cA) (K : Int32 → gM → gL → Nat → Option Int32) (hK : ∀ (i : Int32) (M : gM) (L : gL) (ld : Nat), isLa ld → K i M L ld = some 1 → Zw l p e s m below meth c bs Lx xs D cA 447 23912 18 [(0, .ref bs), (1, .ref (s.heap.size + 0)), (2, .ref (s.heap.size + 401)), (3, .int i)] [] M L (rf ld)) {i : Int32} {M : gM} {L : gL} {ld : Nat} (hld : isLa ld) (h : C_law_19 xs Lx K i M L ld = some 1) : Zw l p e s m below meth c bs Lx xs D cA 447 23912 763 [(0, .ref bs), (1, .ref (s.heap.size + 0)), (2, .ref (s.heap.size + 401)), (3, .int i)] [] M L (rf ld) := by
  unfold C_law_19 at h
  refine z_aload_n C (pc1 := 764) 1 d_law_763 rfl rfl rfl ?_
  refine z_aload_n C (pc1 := 765) 0 d_law_764 rfl rfl rfl ?_
  refine z_iload_n C (pc1 := 766) 3 d_law_765 rfl rfl rfl ?_
  refine z_iconst C (pc1 := 767) (v := 1) d_law_766 rfl (by decide) ?_
  refine z_iadd C (pc1 := 768) d_law_767 rfl ?_
  obtain ⟨g1, h⟩ := gdn h
  refine z_sld C (pc1 := 769) d_law_768 rfl g1 ?_
  obtain ⟨r3, M4, hq2, h⟩ := bnd2 h
  refine z_callV C (E' := (0, 0, 447)) (pc1 := 772) (As := [.int (xs ((i + 1) : Int32).toNatClampNeg)]) (rest := []) d_law_769 rfl mo_Law0_96 mi_Main_often mv_Main_often sh_0 (by decide) rfl ⟨Nat.le_of_ble_eq_true rfl, Nat.le_of_ble_eq_true rfl⟩ rfl rfl (Nat.le_of_ble_eq_true rfl) ⟨Nat.le_of_ble_eq_true rfl, Nat.le_of_ble_eq_true rfl⟩ rfl ?_
  refine f_Main_often hld hq2 ?_
  show Zw l p e s m below meth c bs Lx xs D cA 447 23912 772 [(0, .ref bs), (1, .ref (s.heap.size + 0)), (2, .ref (s.heap.size + 401)), (3, .int i)] [.int r3] M4 L (rf ld)
  refine z_pop C (pc1 := 773) d_law_772 rfl rfl ?_
  refine z_aload_n C (pc1 := 774) 2 d_law_773 rfl rfl rfl ?_
  refine z_aload_n C (pc1 := 775) 0 d_law_774 rfl rfl rfl ?_
  refine z_iload_n C (pc1 := 776) 3 d_law_775 rfl rfl rfl ?_
  refine z_iconst C (pc1 := 777) (v := 1) d_law_776 rfl (by decide) ?_
  refine z_iadd C (pc1 := 778) d_law_777 rfl ?_
  obtain ⟨g5, h⟩ := gdn h
  refine z_sld C (pc1 := 779) d_law_778 rfl g5 ?_
  obtain ⟨r7, M8, hq6, h⟩ := bnd2 h
  refine z_callV C (E' := (0, 0, 447)) (pc1 := 782) (As := [.int (xs ((i + 1) : Int32).toNatClampNeg)]) (rest := []) d_law_779 rfl mo_Law0_99 mi_Mod_often mv_Mod_often sh_401 (by decide) rfl ⟨Nat.le_of_ble_eq_true rfl, Nat.le_of_ble_eq_true rfl⟩ rfl rfl (Nat.le_of_ble_eq_true rfl) ⟨Nat.le_of_ble_eq_true rfl, Nat.le_of_ble_eq_true rfl⟩ rfl ?_
  refine f_Mod_often hld hq6 ?_
  show Zw l p e s m below meth c bs Lx xs D cA 447 23912 782 [(0, .ref bs), (1, .ref (s.heap.size + 0)), (2, .ref (s.heap.size + 401)), (3, .int i)] [.int r7] M8 L (rf ld)
  refine z_pop C (pc1 := 783) d_law_782 rfl rfl ?_
  refine z_goto C (tgt := 1142) d_law_783 (by decide) ?_
  obtain ⟨x9, ex9, h⟩ := ltI h
  refine z_iinc C (pc1 := 1145) (v := x9) (lv' := [(0, .ref bs), (1, .ref (s.heap.size + 0)), (2, .ref (s.heap.size + 401)), (3, .int x9)]) d_law_1142 rfl 3 rfl (by rw [ex9]; rfl) (by decide) [1, 2, 3, 0] rfl ?_
  refine z_goto C (tgt := 18) d_law_1145 (by decide) ?_
  exact hK _ _ _ _ hld h
def C_law_20 (xs : Nat → Int32) (Lx : Nat) (K : Int32 → gM → gL → Nat → Option Int32) (i : Int32) (M : gM) (L : gL) (ld : Nat) : Option Int32 :=
  (if ((i + 1) : Int32) < 0 ∨ Lx ≤ ((i + 1) : Int32).toNatClampNeg then none else (if ((i + 2) : Int32) < 0 ∨ Lx ≤ ((i + 2) : Int32).toNatClampNeg then none else bI2 (F_Main_hunger ld (xs ((i + 1) : Int32).toNatClampNeg) (xs ((i + 2) : Int32).toNatClampNeg) M) (fun r4 M5 => (if ((i + 1) : Int32) < 0 ∨ Lx ≤ ((i + 1) : Int32).toNatClampNeg then none else (if ((i + 2) : Int32) < 0 ∨ Lx ≤ ((i + 2) : Int32).toNatClampNeg then none else bI2 (F_Mod_hunger (xs ((i + 1) : Int32).toNatClampNeg) (xs ((i + 2) : Int32).toNatClampNeg) M5) (fun r9 M10 => nmI (i + 6) (fun x11 => K x11 M10 L ld)))))))
set_option maxHeartbeats 4000000 in
set_option maxRecDepth 20000 in
theorem c_law_20 {l : Launch} {p : Program} {e : Env} {s : State} {m : MethodId} {below : List Frame} {meth : Method} {c : Code} {bs Lx : Nat} {xs : Nat → Int32} {D : va_G} {cA : Nat → ClassId} (C : ZC p s m meth c bs Lx xs D cA) (K : Int32 → gM → gL → Nat → Option Int32) (hK : ∀ (i : Int32) (M : gM) (L : gL) (ld : Nat), isLa ld → K i M L ld = some 1 → Zw l p e s m below meth c bs Lx xs D cA 447 23912 18 [(0, .ref bs), (1, .ref (s.heap.size + 0)), (2, .ref (s.heap.size + 401)), (3, .int i)] [] M L (rf ld)) {i : Int32} {M : gM} {L : gL} {ld : Nat} (hld : isLa ld) (h : C_law_20 xs Lx K i M L ld = some 1) : Zw l p e s m below meth c bs Lx xs D cA 447 23912 786 [(0, .ref bs), (1, .ref (s.heap.size + 0)), (2, .ref (s.heap.size + 401)), (3, .int i)] [] M L (rf ld) := by
  unfold C_law_20 at h
  refine z_aload_n C (pc1 := 787) 1 d_law_786 rfl rfl rfl ?_
  refine z_aload_n C (pc1 := 788) 0 d_law_787 rfl rfl rfl ?_
  refine z_iload_n C (pc1 := 789) 3 d_law_788 rfl rfl rfl ?_
  refine z_iconst C (pc1 := 790) (v := 1) d_law_789 rfl (by decide) ?_
  refine z_iadd C (pc1 := 791) d_law_790 rfl ?_
  obtain ⟨g1, h⟩ := gdn h
  refine z_sld C (pc1 := 792) d_law_791 rfl g1 ?_
  refine z_aload_n C (pc1 := 793) 0 d_law_792 rfl rfl rfl ?_
  refine z_iload_n C (pc1 := 794) 3 d_law_793 rfl rfl rfl ?_
  refine z_iconst C (pc1 := 795) (v := 2) d_law_794 rfl (by decide) ?_
  refine z_iadd C (pc1 := 796) d_law_795 rfl ?_
  obtain ⟨g2, h⟩ := gdn h
  refine z_sld C (pc1 := 797) d_law_796 rfl g2 ?_
  obtain ⟨r4, M5, hq3, h⟩ := bnd2 h
  refine z_callV C (E' := (0, 0, 447)) (pc1 := 800) (As := [.int (xs ((i + 1) : Int32).toNatClampNeg), .int (xs ((i + 2) : Int32).toNatClampNeg)]) (rest := []) d_law_797 rfl mo_Law0_100 mi_Main_hunger mv_Main_hunger sh_0 (by decide) rfl ⟨Nat.le_of_ble_eq_true rfl, Nat.le_of_ble_eq_true rfl⟩ rfl rfl (Nat.le_of_ble_eq_true rfl) ⟨Nat.le_of_ble_eq_true rfl, Nat.le_of_ble_eq_true rfl⟩ rfl ?_
  refine f_Main_hunger hld hq3 ?_
  show Zw l p e s m below meth c bs Lx xs D cA 447 23912 800 [(0, .ref bs), (1, .ref (s.heap.size + 0)), (2, .ref (s.heap.size + 401)), (3, .int i)] [.int r4] M5 L (rf ld)
  refine z_pop C (pc1 := 801) d_law_800 rfl rfl ?_
  refine z_aload_n C (pc1 := 802) 2 d_law_801 rfl rfl rfl ?_
  refine z_aload_n C (pc1 := 803) 0 d_law_802 rfl rfl rfl ?_
  refine z_iload_n C (pc1 := 804) 3 d_law_803 rfl rfl rfl ?_
  refine z_iconst C (pc1 := 805) (v := 1) d_law_804 rfl (by decide) ?_
  refine z_iadd C (pc1 := 806) d_law_805 rfl ?_
  obtain ⟨g6, h⟩ := gdn h
  refine z_sld C (pc1 := 807) d_law_806 rfl g6 ?_
  refine z_aload_n C (pc1 := 808) 0 d_law_807 rfl rfl rfl ?_
  refine z_iload_n C (pc1 := 809) 3 d_law_808 rfl rfl rfl ?_
  refine z_iconst C (pc1 := 810) (v := 2) d_law_809 rfl (by decide) ?_
  refine z_iadd C (pc1 := 811) d_law_810 rfl ?_
  obtain ⟨g7, h⟩ := gdn h
  refine z_sld C (pc1 := 812) d_law_811 rfl g7 ?_
  obtain ⟨r9, M10, hq8, h⟩ := bnd2 h
  refine z_callV C (E' := (0, 0, 447)) (pc1 := 815) (As := [.int (xs ((i + 1) : Int32).toNatClampNeg), .int (xs ((i + 2) : Int32).toNatClampNeg)]) (rest := []) d_law_812 rfl mo_Law0_103 mi_Mod_hunger mv_Mod_hunger sh_401 (by decide) rfl ⟨Nat.le_of_ble_eq_true rfl, Nat.le_of_ble_eq_true rfl⟩ rfl rfl (Nat.le_of_ble_eq_true rfl) ⟨Nat.le_of_ble_eq_true rfl, Nat.le_of_ble_eq_true rfl⟩ rfl ?_
  refine f_Mod_hunger hld hq8 ?_
  show Zw l p e s m below meth c bs Lx xs D cA 447 23912 815 [(0, .ref bs), (1, .ref (s.heap.size + 0)), (2, .ref (s.heap.size + 401)), (3, .int i)] [.int r9] M10 L (rf ld)
  refine z_pop C (pc1 := 816) d_law_815 rfl rfl ?_
  refine z_goto C (tgt := 1142) d_law_816 (by decide) ?_
  obtain ⟨x11, ex11, h⟩ := ltI h
  refine z_iinc C (pc1 := 1145) (v := x11) (lv' := [(0, .ref bs), (1, .ref (s.heap.size + 0)), (2, .ref (s.heap.size + 401)), (3, .int x11)]) d_law_1142 rfl 3 rfl (by rw [ex11]; rfl) (by decide) [1, 2, 3, 0] rfl ?_
  refine z_goto C (tgt := 18) d_law_1145 (by decide) ?_
  exact hK _ _ _ _ hld h
def C_law_21 (xs : Nat → Int32) (Lx : Nat) (K : Int32 → gM → gL → Nat → Option Int32) (i : Int32) (M : gM) (L : gL) (ld : Nat) : Option Int32 :=
  (if ((i + 1) : Int32) < 0 ∨ Lx ≤ ((i + 1) : Int32).toNatClampNeg then none else (if ((i + 2) : Int32) < 0 ∨ Lx ≤ ((i + 2) : Int32).toNatClampNeg then none else bI2 (F_Main_stockIn ld (xs ((i + 1) : Int32).toNatClampNeg) (xs ((i + 2) : Int32).toNatClampNeg) M) (fun r4 M5 => (if ((i + 1) : Int32) < 0 ∨ Lx ≤ ((i + 1) : Int32).toNatClampNeg then none else (if ((i + 2) : Int32) < 0 ∨ Lx ≤ ((i + 2) : Int32).toNatClampNeg then none else bI2 (F_Mod_stockIn (xs ((i + 1) : Int32).toNatClampNeg) (xs ((i + 2) : Int32).toNatClampNeg) M5) (fun r9 M10 => nmI (i + 6) (fun x11 => K x11 M10 L ld)))))))
set_option maxHeartbeats 4000000 in
set_option maxRecDepth 20000 in
theorem c_law_21 {l : Launch} {p : Program} {e : Env} {s : State} {m : MethodId} {below : List Frame} {meth : Method} {c : Code} {bs Lx : Nat} {xs : Nat → Int32} {D : va_G} {cA : Nat → ClassId} (C : ZC p s m meth c bs Lx xs D cA) (K : Int32 → gM → gL → Nat → Option Int32) (hK : ∀ (i : Int32) (M : gM) (L : gL) (ld : Nat), isLa ld → K i M L ld = some 1 → Zw l p e s m below meth c bs Lx xs D cA 447 23912 18 [(0, .ref bs), (1, .ref (s.heap.size + 0)), (2, .ref (s.heap.size + 401)), (3, .int i)] [] M L (rf ld)) {i : Int32} {M : gM} {L : gL} {ld : Nat} (hld : isLa ld) (h : C_law_21 xs Lx K i M L ld = some 1) : Zw l p e s m below meth c bs Lx xs D cA 447 23912 819 [(0, .ref bs), (1, .ref (s.heap.size + 0)), (2, .ref (s.heap.size + 401)), (3, .int i)] [] M L (rf ld) := by
  unfold C_law_21 at h
  refine z_aload_n C (pc1 := 820) 1 d_law_819 rfl rfl rfl ?_
  refine z_aload_n C (pc1 := 821) 0 d_law_820 rfl rfl rfl ?_
  refine z_iload_n C (pc1 := 822) 3 d_law_821 rfl rfl rfl ?_
  refine z_iconst C (pc1 := 823) (v := 1) d_law_822 rfl (by decide) ?_
  refine z_iadd C (pc1 := 824) d_law_823 rfl ?_
  obtain ⟨g1, h⟩ := gdn h
  refine z_sld C (pc1 := 825) d_law_824 rfl g1 ?_
  refine z_aload_n C (pc1 := 826) 0 d_law_825 rfl rfl rfl ?_
  refine z_iload_n C (pc1 := 827) 3 d_law_826 rfl rfl rfl ?_
  refine z_iconst C (pc1 := 828) (v := 2) d_law_827 rfl (by decide) ?_
  refine z_iadd C (pc1 := 829) d_law_828 rfl ?_
  obtain ⟨g2, h⟩ := gdn h
  refine z_sld C (pc1 := 830) d_law_829 rfl g2 ?_
  obtain ⟨r4, M5, hq3, h⟩ := bnd2 h
  refine z_callV C (E' := (0, 0, 447)) (pc1 := 833) (As := [.int (xs ((i + 1) : Int32).toNatClampNeg), .int (xs ((i + 2) : Int32).toNatClampNeg)]) (rest := []) d_law_830 rfl mo_Law0_104 mi_Main_stockIn mv_Main_stockIn sh_0 (by decide) rfl ⟨Nat.le_of_ble_eq_true rfl, Nat.le_of_ble_eq_true rfl⟩ rfl rfl (Nat.le_of_ble_eq_true rfl) ⟨Nat.le_of_ble_eq_true rfl, Nat.le_of_ble_eq_true rfl⟩ rfl ?_
  refine f_Main_stockIn hld hq3 ?_
  show Zw l p e s m below meth c bs Lx xs D cA 447 23912 833 [(0, .ref bs), (1, .ref (s.heap.size + 0)), (2, .ref (s.heap.size + 401)), (3, .int i)] [.int r4] M5 L (rf ld)
  refine z_pop C (pc1 := 834) d_law_833 rfl rfl ?_
  refine z_aload_n C (pc1 := 835) 2 d_law_834 rfl rfl rfl ?_
  refine z_aload_n C (pc1 := 836) 0 d_law_835 rfl rfl rfl ?_
  refine z_iload_n C (pc1 := 837) 3 d_law_836 rfl rfl rfl ?_
  refine z_iconst C (pc1 := 838) (v := 1) d_law_837 rfl (by decide) ?_
  refine z_iadd C (pc1 := 839) d_law_838 rfl ?_
  obtain ⟨g6, h⟩ := gdn h
  refine z_sld C (pc1 := 840) d_law_839 rfl g6 ?_
  refine z_aload_n C (pc1 := 841) 0 d_law_840 rfl rfl rfl ?_
  refine z_iload_n C (pc1 := 842) 3 d_law_841 rfl rfl rfl ?_
  refine z_iconst C (pc1 := 843) (v := 2) d_law_842 rfl (by decide) ?_
  refine z_iadd C (pc1 := 844) d_law_843 rfl ?_
  obtain ⟨g7, h⟩ := gdn h
  refine z_sld C (pc1 := 845) d_law_844 rfl g7 ?_
  obtain ⟨r9, M10, hq8, h⟩ := bnd2 h
  refine z_callV C (E' := (0, 0, 447)) (pc1 := 848) (As := [.int (xs ((i + 1) : Int32).toNatClampNeg), .int (xs ((i + 2) : Int32).toNatClampNeg)]) (rest := []) d_law_845 rfl mo_Law0_107 mi_Mod_stockIn mv_Mod_stockIn sh_401 (by decide) rfl ⟨Nat.le_of_ble_eq_true rfl, Nat.le_of_ble_eq_true rfl⟩ rfl rfl (Nat.le_of_ble_eq_true rfl) ⟨Nat.le_of_ble_eq_true rfl, Nat.le_of_ble_eq_true rfl⟩ rfl ?_
  refine f_Mod_stockIn hld hq8 ?_
  show Zw l p e s m below meth c bs Lx xs D cA 447 23912 848 [(0, .ref bs), (1, .ref (s.heap.size + 0)), (2, .ref (s.heap.size + 401)), (3, .int i)] [.int r9] M10 L (rf ld)
  refine z_pop C (pc1 := 849) d_law_848 rfl rfl ?_
  refine z_goto C (tgt := 1142) d_law_849 (by decide) ?_
  obtain ⟨x11, ex11, h⟩ := ltI h
  refine z_iinc C (pc1 := 1145) (v := x11) (lv' := [(0, .ref bs), (1, .ref (s.heap.size + 0)), (2, .ref (s.heap.size + 401)), (3, .int x11)]) d_law_1142 rfl 3 rfl (by rw [ex11]; rfl) (by decide) [1, 2, 3, 0] rfl ?_
  refine z_goto C (tgt := 18) d_law_1145 (by decide) ?_
  exact hK _ _ _ _ hld h
def C_law_22 (xs : Nat → Int32) (Lx : Nat) (K : Int32 → gM → gL → Nat → Option Int32) (i : Int32) (M : gM) (L : gL) (ld : Nat) : Option Int32 :=
  (if ((i + 1) : Int32) < 0 ∨ Lx ≤ ((i + 1) : Int32).toNatClampNeg then none else (if ((i + 2) : Int32) < 0 ∨ Lx ≤ ((i + 2) : Int32).toNatClampNeg then none else (if ((i + 3) : Int32) < 0 ∨ Lx ≤ ((i + 3) : Int32).toNatClampNeg then none else bI2 (F_Main_boundIn ld (xs ((i + 1) : Int32).toNatClampNeg) (xs ((i + 2) : Int32).toNatClampNeg) (xs ((i + 3) : Int32).toNatClampNeg) M) (fun r5 M6 => (if ((i + 1) : Int32) < 0 ∨ Lx ≤ ((i + 1) : Int32).toNatClampNeg then none else (if ((i + 2) : Int32) < 0 ∨ Lx ≤ ((i + 2) : Int32).toNatClampNeg then none else (if ((i + 3) : Int32) < 0 ∨ Lx ≤ ((i + 3) : Int32).toNatClampNeg then none else bI2 (F_Mod_boundIn (xs ((i + 1) : Int32).toNatClampNeg) (xs ((i + 2) : Int32).toNatClampNeg) (xs ((i + 3) : Int32).toNatClampNeg) M6) (fun r11 M12 => nmI (i + 6) (fun x13 => K x13 M12 L ld)))))))))
set_option maxHeartbeats 4000000 in
set_option maxRecDepth 20000 in
theorem c_law_22 {l : Launch} {p : Program} {e : Env} {s : State} {m : MethodId} {below : List Frame} {meth : Method} {c : Code} {bs Lx : Nat} {xs : Nat → Int32} {D : va_G} {cA : Nat → ClassId} (C : ZC p s m meth c bs Lx xs D cA) (K : Int32 → gM → gL → Nat → Option Int32) (hK : ∀ (i : Int32) (M : gM) (L : gL) (ld : Nat), isLa ld → K i M L ld = some 1 → Zw l p e s m below meth c bs Lx xs D cA 447 23912 18 [(0, .ref bs), (1, .ref (s.heap.size + 0)), (2, .ref (s.heap.size + 401)), (3, .int i)] [] M L (rf ld)) {i : Int32} {M : gM} {L : gL} {ld : Nat} (hld : isLa ld) (h : C_law_22 xs Lx K i M L ld = some 1) : Zw l p e s m below meth c bs Lx xs D cA 447 23912 852 [(0, .ref bs), (1, .ref (s.heap.size + 0)), (2, .ref (s.heap.size + 401)), (3, .int i)] [] M L (rf ld) := by
  unfold C_law_22 at h
  refine z_aload_n C (pc1 := 853) 1 d_law_852 rfl rfl rfl ?_
  refine z_aload_n C (pc1 := 854) 0 d_law_853 rfl rfl rfl ?_
  refine z_iload_n C (pc1 := 855) 3 d_law_854 rfl rfl rfl ?_
  refine z_iconst C (pc1 := 856) (v := 1) d_law_855 rfl (by decide) ?_
  refine z_iadd C (pc1 := 857) d_law_856 rfl ?_
  obtain ⟨g1, h⟩ := gdn h
  refine z_sld C (pc1 := 858) d_law_857 rfl g1 ?_
  refine z_aload_n C (pc1 := 859) 0 d_law_858 rfl rfl rfl ?_
  refine z_iload_n C (pc1 := 860) 3 d_law_859 rfl rfl rfl ?_
  refine z_iconst C (pc1 := 861) (v := 2) d_law_860 rfl (by decide) ?_
  refine z_iadd C (pc1 := 862) d_law_861 rfl ?_
  obtain ⟨g2, h⟩ := gdn h
  refine z_sld C (pc1 := 863) d_law_862 rfl g2 ?_
  refine z_aload_n C (pc1 := 864) 0 d_law_863 rfl rfl rfl ?_
  refine z_iload_n C (pc1 := 865) 3 d_law_864 rfl rfl rfl ?_
  refine z_iconst C (pc1 := 866) (v := 3) d_law_865 rfl (by decide) ?_
  refine z_iadd C (pc1 := 867) d_law_866 rfl ?_
  obtain ⟨g3, h⟩ := gdn h
  refine z_sld C (pc1 := 868) d_law_867 rfl g3 ?_
  obtain ⟨r5, M6, hq4, h⟩ := bnd2 h
  refine z_callV C (E' := (0, 0, 447)) (pc1 := 871) (As := [.int (xs ((i + 1) : Int32).toNatClampNeg), .int (xs ((i + 2) : Int32).toNatClampNeg), .int (xs ((i + 3) : Int32).toNatClampNeg)]) (rest := []) d_law_868 rfl mo_Law0_108 mi_Main_boundIn mv_Main_boundIn sh_0 (by decide) rfl ⟨Nat.le_of_ble_eq_true rfl, Nat.le_of_ble_eq_true rfl⟩ rfl rfl (Nat.le_of_ble_eq_true rfl) ⟨Nat.le_of_ble_eq_true rfl, Nat.le_of_ble_eq_true rfl⟩ rfl ?_
  refine f_Main_boundIn hld hq4 ?_
  show Zw l p e s m below meth c bs Lx xs D cA 447 23912 871 [(0, .ref bs), (1, .ref (s.heap.size + 0)), (2, .ref (s.heap.size + 401)), (3, .int i)] [.int r5] M6 L (rf ld)
  refine z_pop C (pc1 := 872) d_law_871 rfl rfl ?_
  refine z_aload_n C (pc1 := 873) 2 d_law_872 rfl rfl rfl ?_
  refine z_aload_n C (pc1 := 874) 0 d_law_873 rfl rfl rfl ?_
  refine z_iload_n C (pc1 := 875) 3 d_law_874 rfl rfl rfl ?_
  refine z_iconst C (pc1 := 876) (v := 1) d_law_875 rfl (by decide) ?_
  refine z_iadd C (pc1 := 877) d_law_876 rfl ?_
  obtain ⟨g7, h⟩ := gdn h
  refine z_sld C (pc1 := 878) d_law_877 rfl g7 ?_
  refine z_aload_n C (pc1 := 879) 0 d_law_878 rfl rfl rfl ?_
  refine z_iload_n C (pc1 := 880) 3 d_law_879 rfl rfl rfl ?_
  refine z_iconst C (pc1 := 881) (v := 2) d_law_880 rfl (by decide) ?_
  refine z_iadd C (pc1 := 882) d_law_881 rfl ?_
  obtain ⟨g8, h⟩ := gdn h
  refine z_sld C (pc1 := 883) d_law_882 rfl g8 ?_
  refine z_aload_n C (pc1 := 884) 0 d_law_883 rfl rfl rfl ?_
  refine z_iload_n C (pc1 := 885) 3 d_law_884 rfl rfl rfl ?_
  refine z_iconst C (pc1 := 886) (v := 3) d_law_885 rfl (by decide) ?_
  refine z_iadd C (pc1 := 887) d_law_886 rfl ?_
  obtain ⟨g9, h⟩ := gdn h
  refine z_sld C (pc1 := 888) d_law_887 rfl g9 ?_
  obtain ⟨r11, M12, hq10, h⟩ := bnd2 h
  refine z_callV C (E' := (0, 0, 447)) (pc1 := 891) (As := [.int (xs ((i + 1) : Int32).toNatClampNeg), .int (xs ((i + 2) : Int32).toNatClampNeg), .int (xs ((i + 3) : Int32).toNatClampNeg)]) (rest := []) d_law_888 rfl mo_Law0_111 mi_Mod_boundIn mv_Mod_boundIn sh_401 (by decide) rfl ⟨Nat.le_of_ble_eq_true rfl, Nat.le_of_ble_eq_true rfl⟩ rfl rfl (Nat.le_of_ble_eq_true rfl) ⟨Nat.le_of_ble_eq_true rfl, Nat.le_of_ble_eq_true rfl⟩ rfl ?_
  refine f_Mod_boundIn hld hq10 ?_
  show Zw l p e s m below meth c bs Lx xs D cA 447 23912 891 [(0, .ref bs), (1, .ref (s.heap.size + 0)), (2, .ref (s.heap.size + 401)), (3, .int i)] [.int r11] M12 L (rf ld)
  refine z_pop C (pc1 := 892) d_law_891 rfl rfl ?_
  refine z_goto C (tgt := 1142) d_law_892 (by decide) ?_
  obtain ⟨x13, ex13, h⟩ := ltI h
  refine z_iinc C (pc1 := 1145) (v := x13) (lv' := [(0, .ref bs), (1, .ref (s.heap.size + 0)), (2, .ref (s.heap.size + 401)), (3, .int x13)]) d_law_1142 rfl 3 rfl (by rw [ex13]; rfl) (by decide) [1, 2, 3, 0] rfl ?_
  refine z_goto C (tgt := 18) d_law_1145 (by decide) ?_
  exact hK _ _ _ _ hld h
def C_law_23 (xs : Nat → Int32) (Lx : Nat) (K : Int32 → gM → gL → Nat → Option Int32) (i : Int32) (M : gM) (L : gL) (ld : Nat) : Option Int32 :=
  (if ((i + 1) : Int32) < 0 ∨ Lx ≤ ((i + 1) : Int32).toNatClampNeg then none else (if ((i + 2) : Int32) < 0 ∨ Lx ≤ ((i + 2) : Int32).toNatClampNeg then none else (if ((i + 3) : Int32) < 0 ∨ Lx ≤ ((i + 3) : Int32).toNatClampNeg then none else (if ((i + 4) : Int32) < 0 ∨ Lx ≤ ((i + 4) : Int32).toNatClampNeg then none else bI2 (F_Main_year ld (xs ((i + 1) : Int32).toNatClampNeg) (xs ((i + 2) : Int32).toNatClampNeg) (xs ((i + 3) : Int32).toNatClampNeg) (xs ((i + 4) : Int32).toNatClampNeg) M) (fun r6 M7 => (if ((i + 1) : Int32) < 0 ∨ Lx ≤ ((i + 1) : Int32).toNatClampNeg then none else (if ((i + 2) : Int32) < 0 ∨ Lx ≤ ((i + 2) : Int32).toNatClampNeg then none else (if ((i + 3) : Int32) < 0 ∨ Lx ≤ ((i + 3) : Int32).toNatClampNeg then none else (if ((i + 4) : Int32) < 0 ∨ Lx ≤ ((i + 4) : Int32).toNatClampNeg then none else bI2 (F_Mod_year (xs ((i + 1) : Int32).toNatClampNeg) (xs ((i + 2) : Int32).toNatClampNeg) (xs ((i + 3) : Int32).toNatClampNeg) (xs ((i + 4) : Int32).toNatClampNeg) M7) (fun r13 M14 => nmI (i + 6) (fun x15 => K x15 M14 L ld)))))))))))
set_option maxHeartbeats 4000000 in
set_option maxRecDepth 20000 in
theorem c_law_23 {l : Launch} {p : Program} {e : Env} {s : State} {m : MethodId} {below : List Frame} {meth : Method} {c : Code} {bs Lx : Nat} {xs : Nat → Int32} {D : va_G} {cA : Nat → ClassId} (C : ZC p s m meth c bs Lx xs D cA) (K : Int32 → gM → gL → Nat → Option Int32) (hK : ∀ (i : Int32) (M : gM) (L : gL) (ld : Nat), isLa ld → K i M L ld = some 1 → Zw l p e s m below meth c bs Lx xs D cA 447 23912 18 [(0, .ref bs), (1, .ref (s.heap.size + 0)), (2, .ref (s.heap.size + 401)), (3, .int i)] [] M L (rf ld)) {i : Int32} {M : gM} {L : gL} {ld : Nat} (hld : isLa ld) (h : C_law_23 xs Lx K i M L ld = some 1) : Zw l p e s m below meth c bs Lx xs D cA 447 23912 895 [(0, .ref bs), (1, .ref (s.heap.size + 0)), (2, .ref (s.heap.size + 401)), (3, .int i)] [] M L (rf ld) := by
  unfold C_law_23 at h
  refine z_aload_n C (pc1 := 896) 1 d_law_895 rfl rfl rfl ?_
  refine z_aload_n C (pc1 := 897) 0 d_law_896 rfl rfl rfl ?_
  refine z_iload_n C (pc1 := 898) 3 d_law_897 rfl rfl rfl ?_
  refine z_iconst C (pc1 := 899) (v := 1) d_law_898 rfl (by decide) ?_
  refine z_iadd C (pc1 := 900) d_law_899 rfl ?_
  obtain ⟨g1, h⟩ := gdn h
  refine z_sld C (pc1 := 901) d_law_900 rfl g1 ?_
  refine z_aload_n C (pc1 := 902) 0 d_law_901 rfl rfl rfl ?_
  refine z_iload_n C (pc1 := 903) 3 d_law_902 rfl rfl rfl ?_
  refine z_iconst C (pc1 := 904) (v := 2) d_law_903 rfl (by decide) ?_
  refine z_iadd C (pc1 := 905) d_law_904 rfl ?_
  obtain ⟨g2, h⟩ := gdn h
  refine z_sld C (pc1 := 906) d_law_905 rfl g2 ?_
  refine z_aload_n C (pc1 := 907) 0 d_law_906 rfl rfl rfl ?_
  refine z_iload_n C (pc1 := 908) 3 d_law_907 rfl rfl rfl ?_
  refine z_iconst C (pc1 := 909) (v := 3) d_law_908 rfl (by decide) ?_
  refine z_iadd C (pc1 := 910) d_law_909 rfl ?_
  obtain ⟨g3, h⟩ := gdn h
  refine z_sld C (pc1 := 911) d_law_910 rfl g3 ?_
  refine z_aload_n C (pc1 := 912) 0 d_law_911 rfl rfl rfl ?_
  refine z_iload_n C (pc1 := 913) 3 d_law_912 rfl rfl rfl ?_
  refine z_iconst C (pc1 := 914) (v := 4) d_law_913 rfl (by decide) ?_
  refine z_iadd C (pc1 := 915) d_law_914 rfl ?_
  obtain ⟨g4, h⟩ := gdn h
  refine z_sld C (pc1 := 916) d_law_915 rfl g4 ?_
  obtain ⟨r6, M7, hq5, h⟩ := bnd2 h
  refine z_callV C (E' := (0, 0, 447)) (pc1 := 919) (As := [.int (xs ((i + 1) : Int32).toNatClampNeg), .int (xs ((i + 2) : Int32).toNatClampNeg), .int (xs ((i + 3) : Int32).toNatClampNeg), .int (xs ((i + 4) : Int32).toNatClampNeg)]) (rest := []) d_law_916 rfl mo_Law0_112 mi_Main_year mv_Main_year sh_0 (by decide) rfl ⟨Nat.le_of_ble_eq_true rfl, Nat.le_of_ble_eq_true rfl⟩ rfl rfl (Nat.le_of_ble_eq_true rfl) ⟨Nat.le_of_ble_eq_true rfl, Nat.le_of_ble_eq_true rfl⟩ rfl ?_
  refine f_Main_year hld hq5 ?_
  show Zw l p e s m below meth c bs Lx xs D cA 447 23912 919 [(0, .ref bs), (1, .ref (s.heap.size + 0)), (2, .ref (s.heap.size + 401)), (3, .int i)] [.int r6] M7 L (rf ld)
  refine z_pop C (pc1 := 920) d_law_919 rfl rfl ?_
  refine z_aload_n C (pc1 := 921) 2 d_law_920 rfl rfl rfl ?_
  refine z_aload_n C (pc1 := 922) 0 d_law_921 rfl rfl rfl ?_
  refine z_iload_n C (pc1 := 923) 3 d_law_922 rfl rfl rfl ?_
  refine z_iconst C (pc1 := 924) (v := 1) d_law_923 rfl (by decide) ?_
  refine z_iadd C (pc1 := 925) d_law_924 rfl ?_
  obtain ⟨g8, h⟩ := gdn h
  refine z_sld C (pc1 := 926) d_law_925 rfl g8 ?_
  refine z_aload_n C (pc1 := 927) 0 d_law_926 rfl rfl rfl ?_
  refine z_iload_n C (pc1 := 928) 3 d_law_927 rfl rfl rfl ?_
  refine z_iconst C (pc1 := 929) (v := 2) d_law_928 rfl (by decide) ?_
  refine z_iadd C (pc1 := 930) d_law_929 rfl ?_
  obtain ⟨g9, h⟩ := gdn h
  refine z_sld C (pc1 := 931) d_law_930 rfl g9 ?_
  refine z_aload_n C (pc1 := 932) 0 d_law_931 rfl rfl rfl ?_
  refine z_iload_n C (pc1 := 933) 3 d_law_932 rfl rfl rfl ?_
  refine z_iconst C (pc1 := 934) (v := 3) d_law_933 rfl (by decide) ?_
  refine z_iadd C (pc1 := 935) d_law_934 rfl ?_
  obtain ⟨g10, h⟩ := gdn h
  refine z_sld C (pc1 := 936) d_law_935 rfl g10 ?_
  refine z_aload_n C (pc1 := 937) 0 d_law_936 rfl rfl rfl ?_
  refine z_iload_n C (pc1 := 938) 3 d_law_937 rfl rfl rfl ?_
  refine z_iconst C (pc1 := 939) (v := 4) d_law_938 rfl (by decide) ?_
  refine z_iadd C (pc1 := 940) d_law_939 rfl ?_
  obtain ⟨g11, h⟩ := gdn h
  refine z_sld C (pc1 := 941) d_law_940 rfl g11 ?_
  obtain ⟨r13, M14, hq12, h⟩ := bnd2 h
  refine z_callV C (E' := (0, 0, 447)) (pc1 := 944) (As := [.int (xs ((i + 1) : Int32).toNatClampNeg), .int (xs ((i + 2) : Int32).toNatClampNeg), .int (xs ((i + 3) : Int32).toNatClampNeg), .int (xs ((i + 4) : Int32).toNatClampNeg)]) (rest := []) d_law_941 rfl mo_Law0_115 mi_Mod_year mv_Mod_year sh_401 (by decide) rfl ⟨Nat.le_of_ble_eq_true rfl, Nat.le_of_ble_eq_true rfl⟩ rfl rfl (Nat.le_of_ble_eq_true rfl) ⟨Nat.le_of_ble_eq_true rfl, Nat.le_of_ble_eq_true rfl⟩ rfl ?_
  refine f_Mod_year hld hq12 ?_
  show Zw l p e s m below meth c bs Lx xs D cA 447 23912 944 [(0, .ref bs), (1, .ref (s.heap.size + 0)), (2, .ref (s.heap.size + 401)), (3, .int i)] [.int r13] M14 L (rf ld)
  refine z_pop C (pc1 := 945) d_law_944 rfl rfl ?_
  refine z_goto C (tgt := 1142) d_law_945 (by decide) ?_
  obtain ⟨x15, ex15, h⟩ := ltI h
  refine z_iinc C (pc1 := 1145) (v := x15) (lv' := [(0, .ref bs), (1, .ref (s.heap.size + 0)), (2, .ref (s.heap.size + 401)), (3, .int x15)]) d_law_1142 rfl 3 rfl (by rw [ex15]; rfl) (by decide) [1, 2, 3, 0] rfl ?_
  refine z_goto C (tgt := 18) d_law_1145 (by decide) ?_
  exact hK _ _ _ _ hld h
def C_law_24 (xs : Nat → Int32) (Lx : Nat) (K : Int32 → gM → gL → Nat → Option Int32) (i : Int32) (M : gM) (L : gL) (ld : Nat) : Option Int32 :=
  (if ((i + 1) : Int32) < 0 ∨ Lx ≤ ((i + 1) : Int32).toNatClampNeg then none else (if ((i + 2) : Int32) < 0 ∨ Lx ≤ ((i + 2) : Int32).toNatClampNeg then none else (if ((i + 3) : Int32) < 0 ∨ Lx ≤ ((i + 3) : Int32).toNatClampNeg then none else bI2 (F_Main_tell (xs ((i + 1) : Int32).toNatClampNeg) (xs ((i + 2) : Int32).toNatClampNeg) (xs ((i + 3) : Int32).toNatClampNeg) M) (fun r5 M6 => (if ((i + 1) : Int32) < 0 ∨ Lx ≤ ((i + 1) : Int32).toNatClampNeg then none else (if ((i + 2) : Int32) < 0 ∨ Lx ≤ ((i + 2) : Int32).toNatClampNeg then none else (if ((i + 3) : Int32) < 0 ∨ Lx ≤ ((i + 3) : Int32).toNatClampNeg then none else bI2 (F_Mod_tell (xs ((i + 1) : Int32).toNatClampNeg) (xs ((i + 2) : Int32).toNatClampNeg) (xs ((i + 3) : Int32).toNatClampNeg) M6) (fun r11 M12 => nmI (i + 6) (fun x13 => K x13 M12 L ld)))))))))
set_option maxHeartbeats 4000000 in
set_option maxRecDepth 20000 in
theorem c_law_24 {l : Launch} {p : Program} {e : Env} {s : State} {m : MethodId} {below : List Frame} {meth : Method} {c : Code} {bs Lx : Nat} {xs : Nat → Int32} {D : va_G} {cA : Nat → ClassId} (C : ZC p s m meth c bs Lx xs D cA) (K : Int32 → gM → gL → Nat → Option Int32) (hK : ∀ (i : Int32) (M : gM) (L : gL) (ld : Nat), isLa ld → K i M L ld = some 1 → Zw l p e s m below meth c bs Lx xs D cA 447 23912 18 [(0, .ref bs), (1, .ref (s.heap.size + 0)), (2, .ref (s.heap.size + 401)), (3, .int i)] [] M L (rf ld)) {i : Int32} {M : gM} {L : gL} {ld : Nat} (hld : isLa ld) (h : C_law_24 xs Lx K i M L ld = some 1) : Zw l p e s m below meth c bs Lx xs D cA 447 23912 948 [(0, .ref bs), (1, .ref (s.heap.size + 0)), (2, .ref (s.heap.size + 401)), (3, .int i)] [] M L (rf ld) := by
  unfold C_law_24 at h
  refine z_aload_n C (pc1 := 949) 1 d_law_948 rfl rfl rfl ?_
  refine z_aload_n C (pc1 := 950) 0 d_law_949 rfl rfl rfl ?_
  refine z_iload_n C (pc1 := 951) 3 d_law_950 rfl rfl rfl ?_
  refine z_iconst C (pc1 := 952) (v := 1) d_law_951 rfl (by decide) ?_
  refine z_iadd C (pc1 := 953) d_law_952 rfl ?_
  obtain ⟨g1, h⟩ := gdn h
  refine z_sld C (pc1 := 954) d_law_953 rfl g1 ?_
  refine z_aload_n C (pc1 := 955) 0 d_law_954 rfl rfl rfl ?_
  refine z_iload_n C (pc1 := 956) 3 d_law_955 rfl rfl rfl ?_
  refine z_iconst C (pc1 := 957) (v := 2) d_law_956 rfl (by decide) ?_
  refine z_iadd C (pc1 := 958) d_law_957 rfl ?_
  obtain ⟨g2, h⟩ := gdn h
  refine z_sld C (pc1 := 959) d_law_958 rfl g2 ?_
  refine z_aload_n C (pc1 := 960) 0 d_law_959 rfl rfl rfl ?_
  refine z_iload_n C (pc1 := 961) 3 d_law_960 rfl rfl rfl ?_
  refine z_iconst C (pc1 := 962) (v := 3) d_law_961 rfl (by decide) ?_
  refine z_iadd C (pc1 := 963) d_law_962 rfl ?_
  obtain ⟨g3, h⟩ := gdn h
  refine z_sld C (pc1 := 964) d_law_963 rfl g3 ?_
  obtain ⟨r5, M6, hq4, h⟩ := bnd2 h
  refine z_callV C (E' := (0, 0, 447)) (pc1 := 967) (As := [.int (xs ((i + 1) : Int32).toNatClampNeg), .int (xs ((i + 2) : Int32).toNatClampNeg), .int (xs ((i + 3) : Int32).toNatClampNeg)]) (rest := []) d_law_964 rfl mo_Law0_116 mi_Main_tell mv_Main_tell sh_0 (by decide) rfl ⟨Nat.le_of_ble_eq_true rfl, Nat.le_of_ble_eq_true rfl⟩ rfl rfl (Nat.le_of_ble_eq_true rfl) ⟨Nat.le_of_ble_eq_true rfl, Nat.le_of_ble_eq_true rfl⟩ rfl ?_
  refine f_Main_tell hld hq4 ?_
  show Zw l p e s m below meth c bs Lx xs D cA 447 23912 967 [(0, .ref bs), (1, .ref (s.heap.size + 0)), (2, .ref (s.heap.size + 401)), (3, .int i)] [.int r5] M6 L (rf ld)
  refine z_pop C (pc1 := 968) d_law_967 rfl rfl ?_
  refine z_aload_n C (pc1 := 969) 2 d_law_968 rfl rfl rfl ?_
  refine z_aload_n C (pc1 := 970) 0 d_law_969 rfl rfl rfl ?_
  refine z_iload_n C (pc1 := 971) 3 d_law_970 rfl rfl rfl ?_
  refine z_iconst C (pc1 := 972) (v := 1) d_law_971 rfl (by decide) ?_
  refine z_iadd C (pc1 := 973) d_law_972 rfl ?_
  obtain ⟨g7, h⟩ := gdn h
  refine z_sld C (pc1 := 974) d_law_973 rfl g7 ?_
  refine z_aload_n C (pc1 := 975) 0 d_law_974 rfl rfl rfl ?_
  refine z_iload_n C (pc1 := 976) 3 d_law_975 rfl rfl rfl ?_
  refine z_iconst C (pc1 := 977) (v := 2) d_law_976 rfl (by decide) ?_
  refine z_iadd C (pc1 := 978) d_law_977 rfl ?_
  obtain ⟨g8, h⟩ := gdn h
  refine z_sld C (pc1 := 979) d_law_978 rfl g8 ?_
  refine z_aload_n C (pc1 := 980) 0 d_law_979 rfl rfl rfl ?_
  refine z_iload_n C (pc1 := 981) 3 d_law_980 rfl rfl rfl ?_
  refine z_iconst C (pc1 := 982) (v := 3) d_law_981 rfl (by decide) ?_
  refine z_iadd C (pc1 := 983) d_law_982 rfl ?_
  obtain ⟨g9, h⟩ := gdn h
  refine z_sld C (pc1 := 984) d_law_983 rfl g9 ?_
  obtain ⟨r11, M12, hq10, h⟩ := bnd2 h
  refine z_callV C (E' := (0, 0, 447)) (pc1 := 987) (As := [.int (xs ((i + 1) : Int32).toNatClampNeg), .int (xs ((i + 2) : Int32).toNatClampNeg), .int (xs ((i + 3) : Int32).toNatClampNeg)]) (rest := []) d_law_984 rfl mo_Law0_119 mi_Mod_tell mv_Mod_tell sh_401 (by decide) rfl ⟨Nat.le_of_ble_eq_true rfl, Nat.le_of_ble_eq_true rfl⟩ rfl rfl (Nat.le_of_ble_eq_true rfl) ⟨Nat.le_of_ble_eq_true rfl, Nat.le_of_ble_eq_true rfl⟩ rfl ?_
  refine f_Mod_tell hld hq10 ?_
  show Zw l p e s m below meth c bs Lx xs D cA 447 23912 987 [(0, .ref bs), (1, .ref (s.heap.size + 0)), (2, .ref (s.heap.size + 401)), (3, .int i)] [.int r11] M12 L (rf ld)
  refine z_pop C (pc1 := 988) d_law_987 rfl rfl ?_
  refine z_goto C (tgt := 1142) d_law_988 (by decide) ?_
  obtain ⟨x13, ex13, h⟩ := ltI h
  refine z_iinc C (pc1 := 1145) (v := x13) (lv' := [(0, .ref bs), (1, .ref (s.heap.size + 0)), (2, .ref (s.heap.size + 401)), (3, .int x13)]) d_law_1142 rfl 3 rfl (by rw [ex13]; rfl) (by decide) [1, 2, 3, 0] rfl ?_
  refine z_goto C (tgt := 18) d_law_1145 (by decide) ?_
  exact hK _ _ _ _ hld h
def C_law_25 (xs : Nat → Int32) (Lx : Nat) (K : Int32 → gM → gL → Nat → Option Int32) (i : Int32) (M : gM) (L : gL) (ld : Nat) : Option Int32 :=
  bI2 (F_Main_forget M) (fun r2 M3 => bI2 (F_Mod_forget M3) (fun r5 M6 => nmI (i + 6) (fun x7 => K x7 M6 L ld)))
set_option maxHeartbeats 4000000 in
set_option maxRecDepth 20000 in
theorem c_law_25 {l : Launch} {p : Program} {e : Env} {s : State} {m : MethodId} {below : List Frame} {meth : Method} {c : Code} {bs Lx : Nat} {xs : Nat → Int32} {D : va_G} {cA : Nat → ClassId} (C : ZC p s m meth c bs Lx xs D cA) (K : Int32 → gM → gL → Nat → Option Int32) (hK : ∀ (i : Int32) (M : gM) (L : gL) (ld : Nat), isLa ld → K i M L ld = some 1 → Zw l p e s m below meth c bs Lx xs D cA 447 23912 18 [(0, .ref bs), (1, .ref (s.heap.size + 0)), (2, .ref (s.heap.size + 401)), (3, .int i)] [] M L (rf ld)) {i : Int32} {M : gM} {L : gL} {ld : Nat} (hld : isLa ld) (h : C_law_25 xs Lx K i M L ld = some 1) : Zw l p e s m below meth c bs Lx xs D cA 447 23912 991 [(0, .ref bs), (1, .ref (s.heap.size + 0)), (2, .ref (s.heap.size + 401)), (3, .int i)] [] M L (rf ld) := by
  unfold C_law_25 at h
  refine z_aload_n C (pc1 := 992) 1 d_law_991 rfl rfl rfl ?_
  obtain ⟨r2, M3, hq1, h⟩ := bnd2 h
  refine z_callV C (E' := (0, 0, 447)) (pc1 := 995) (As := []) (rest := []) d_law_992 rfl mo_Law0_120 mi_Main_forget mv_Main_forget sh_0 (by decide) rfl ⟨Nat.le_of_ble_eq_true rfl, Nat.le_of_ble_eq_true rfl⟩ rfl rfl (Nat.le_of_ble_eq_true rfl) ⟨Nat.le_of_ble_eq_true rfl, Nat.le_of_ble_eq_true rfl⟩ rfl ?_
  refine f_Main_forget hld hq1 ?_
  show Zw l p e s m below meth c bs Lx xs D cA 447 23912 995 [(0, .ref bs), (1, .ref (s.heap.size + 0)), (2, .ref (s.heap.size + 401)), (3, .int i)] [.int r2] M3 L (rf ld)
  refine z_pop C (pc1 := 996) d_law_995 rfl rfl ?_
  refine z_aload_n C (pc1 := 997) 2 d_law_996 rfl rfl rfl ?_
  obtain ⟨r5, M6, hq4, h⟩ := bnd2 h
  refine z_callV C (E' := (0, 0, 447)) (pc1 := 1000) (As := []) (rest := []) d_law_997 rfl mo_Law0_123 mi_Mod_forget mv_Mod_forget sh_401 (by decide) rfl ⟨Nat.le_of_ble_eq_true rfl, Nat.le_of_ble_eq_true rfl⟩ rfl rfl (Nat.le_of_ble_eq_true rfl) ⟨Nat.le_of_ble_eq_true rfl, Nat.le_of_ble_eq_true rfl⟩ rfl ?_
  refine f_Mod_forget hld hq4 ?_
  show Zw l p e s m below meth c bs Lx xs D cA 447 23912 1000 [(0, .ref bs), (1, .ref (s.heap.size + 0)), (2, .ref (s.heap.size + 401)), (3, .int i)] [.int r5] M6 L (rf ld)
  refine z_pop C (pc1 := 1001) d_law_1000 rfl rfl ?_
  refine z_goto C (tgt := 1142) d_law_1001 (by decide) ?_
  obtain ⟨x7, ex7, h⟩ := ltI h
  refine z_iinc C (pc1 := 1145) (v := x7) (lv' := [(0, .ref bs), (1, .ref (s.heap.size + 0)), (2, .ref (s.heap.size + 401)), (3, .int x7)]) d_law_1142 rfl 3 rfl (by rw [ex7]; rfl) (by decide) [1, 2, 3, 0] rfl ?_
  refine z_goto C (tgt := 18) d_law_1145 (by decide) ?_
  exact hK _ _ _ _ hld h
def C_law_26 (xs : Nat → Int32) (Lx : Nat) (K : Int32 → gM → gL → Nat → Option Int32) (i : Int32) (M : gM) (L : gL) (ld : Nat) : Option Int32 :=
  (if ((i + 1) : Int32) < 0 ∨ Lx ≤ ((i + 1) : Int32).toNatClampNeg then none else bI2 (F_Main_blame ld (xs ((i + 1) : Int32).toNatClampNeg) M) (fun r3 M4 => (if ((i + 1) : Int32) < 0 ∨ Lx ≤ ((i + 1) : Int32).toNatClampNeg then none else bI2 (F_Mod_blame (xs ((i + 1) : Int32).toNatClampNeg) M4) (fun r7 M8 => nmI (i + 6) (fun x9 => K x9 M8 L ld)))))
set_option maxHeartbeats 4000000 in
set_option maxRecDepth 20000 in
theorem c_law_26 {l : Launch} {p : Program} {e : Env} {s : State} {m : MethodId} {below : List Frame} {meth : Method} {c : Code} {bs Lx : Nat} {xs : Nat → Int32} {D : va_G} {cA : Nat → ClassId} (C : ZC p s m meth c bs Lx xs D cA) (K : Int32 → gM → gL → Nat → Option Int32) (hK : ∀ (i : Int32) (M : gM) (L : gL) (ld : Nat), isLa ld → K i M L ld = some 1 → Zw l p e s m below meth c bs Lx xs D cA 447 23912 18 [(0, .ref bs), (1, .ref (s.heap.size + 0)), (2, .ref (s.heap.size + 401)), (3, .int i)] [] M L (rf ld)) {i : Int32} {M : gM} {L : gL} {ld : Nat} (hld : isLa ld) (h : C_law_26 xs Lx K i M L ld = some 1) : Zw l p e s m below meth c bs Lx xs D cA 447 23912 1004 [(0, .ref bs), (1, .ref (s.heap.size + 0)), (2, .ref (s.heap.size + 401)), (3, .int i)] [] M L (rf ld) := by
  unfold C_law_26 at h
  refine z_aload_n C (pc1 := 1005) 1 d_law_1004 rfl rfl rfl ?_
  refine z_aload_n C (pc1 := 1006) 0 d_law_1005 rfl rfl rfl ?_
  refine z_iload_n C (pc1 := 1007) 3 d_law_1006 rfl rfl rfl ?_
  refine z_iconst C (pc1 := 1008) (v := 1) d_law_1007 rfl (by decide) ?_
  refine z_iadd C (pc1 := 1009) d_law_1008 rfl ?_
  obtain ⟨g1, h⟩ := gdn h
  refine z_sld C (pc1 := 1010) d_law_1009 rfl g1 ?_
  obtain ⟨r3, M4, hq2, h⟩ := bnd2 h
  refine z_callV C (E' := (0, 0, 447)) (pc1 := 1013) (As := [.int (xs ((i + 1) : Int32).toNatClampNeg)]) (rest := []) d_law_1010 rfl mo_Law0_124 mi_Main_blame mv_Main_blame sh_0 (by decide) rfl ⟨Nat.le_of_ble_eq_true rfl, Nat.le_of_ble_eq_true rfl⟩ rfl rfl (Nat.le_of_ble_eq_true rfl) ⟨Nat.le_of_ble_eq_true rfl, Nat.le_of_ble_eq_true rfl⟩ rfl ?_
  refine f_Main_blame hld hq2 ?_
  show Zw l p e s m below meth c bs Lx xs D cA 447 23912 1013 [(0, .ref bs), (1, .ref (s.heap.size + 0)), (2, .ref (s.heap.size + 401)), (3, .int i)] [.int r3] M4 L (rf ld)
  refine z_pop C (pc1 := 1014) d_law_1013 rfl rfl ?_
  refine z_aload_n C (pc1 := 1015) 2 d_law_1014 rfl rfl rfl ?_
  refine z_aload_n C (pc1 := 1016) 0 d_law_1015 rfl rfl rfl ?_
  refine z_iload_n C (pc1 := 1017) 3 d_law_1016 rfl rfl rfl ?_
  refine z_iconst C (pc1 := 1018) (v := 1) d_law_1017 rfl (by decide) ?_
  refine z_iadd C (pc1 := 1019) d_law_1018 rfl ?_
  obtain ⟨g5, h⟩ := gdn h
  refine z_sld C (pc1 := 1020) d_law_1019 rfl g5 ?_
  obtain ⟨r7, M8, hq6, h⟩ := bnd2 h
  refine z_callV C (E' := (0, 0, 447)) (pc1 := 1023) (As := [.int (xs ((i + 1) : Int32).toNatClampNeg)]) (rest := []) d_law_1020 rfl mo_Law0_127 mi_Mod_blame mv_Mod_blame sh_401 (by decide) rfl ⟨Nat.le_of_ble_eq_true rfl, Nat.le_of_ble_eq_true rfl⟩ rfl rfl (Nat.le_of_ble_eq_true rfl) ⟨Nat.le_of_ble_eq_true rfl, Nat.le_of_ble_eq_true rfl⟩ rfl ?_
  refine f_Mod_blame hld hq6 ?_
  show Zw l p e s m below meth c bs Lx xs D cA 447 23912 1023 [(0, .ref bs), (1, .ref (s.heap.size + 0)), (2, .ref (s.heap.size + 401)), (3, .int i)] [.int r7] M8 L (rf ld)
  refine z_pop C (pc1 := 1024) d_law_1023 rfl rfl ?_
  refine z_goto C (tgt := 1142) d_law_1024 (by decide) ?_
  obtain ⟨x9, ex9, h⟩ := ltI h
  refine z_iinc C (pc1 := 1145) (v := x9) (lv' := [(0, .ref bs), (1, .ref (s.heap.size + 0)), (2, .ref (s.heap.size + 401)), (3, .int x9)]) d_law_1142 rfl 3 rfl (by rw [ex9]; rfl) (by decide) [1, 2, 3, 0] rfl ?_
  refine z_goto C (tgt := 18) d_law_1145 (by decide) ?_
  exact hK _ _ _ _ hld h
def C_law_27 (xs : Nat → Int32) (Lx : Nat) (K : Int32 → gM → gL → Nat → Option Int32) (i : Int32) (M : gM) (L : gL) (ld : Nat) : Option Int32 :=
  (if ((i + 1) : Int32) < 0 ∨ Lx ≤ ((i + 1) : Int32).toNatClampNeg then none else bI2 (F_Main_sure ld (xs ((i + 1) : Int32).toNatClampNeg) M) (fun r3 M4 => (if ((i + 1) : Int32) < 0 ∨ Lx ≤ ((i + 1) : Int32).toNatClampNeg then none else bI2 (F_Mod_sure (xs ((i + 1) : Int32).toNatClampNeg) M4) (fun r7 M8 => (if r3 = r7 then nmI (i + 6) (fun x9 => K x9 M8 L ld) else some 0)))))
set_option maxHeartbeats 4000000 in
set_option maxRecDepth 20000 in
theorem c_law_27 {l : Launch} {p : Program} {e : Env} {s : State} {m : MethodId} {below : List Frame} {meth : Method} {c : Code} {bs Lx : Nat} {xs : Nat → Int32} {D : va_G} {cA : Nat → ClassId} (C : ZC p s m meth c bs Lx xs D cA) (K : Int32 → gM → gL → Nat → Option Int32) (hK : ∀ (i : Int32) (M : gM) (L : gL) (ld : Nat), isLa ld → K i M L ld = some 1 → Zw l p e s m below meth c bs Lx xs D cA 447 23912 18 [(0, .ref bs), (1, .ref (s.heap.size + 0)), (2, .ref (s.heap.size + 401)), (3, .int i)] [] M L (rf ld)) {i : Int32} {M : gM} {L : gL} {ld : Nat} (hld : isLa ld) (h : C_law_27 xs Lx K i M L ld = some 1) : Zw l p e s m below meth c bs Lx xs D cA 447 23912 1027 [(0, .ref bs), (1, .ref (s.heap.size + 0)), (2, .ref (s.heap.size + 401)), (3, .int i)] [] M L (rf ld) := by
  unfold C_law_27 at h
  refine z_aload_n C (pc1 := 1028) 1 d_law_1027 rfl rfl rfl ?_
  refine z_aload_n C (pc1 := 1029) 0 d_law_1028 rfl rfl rfl ?_
  refine z_iload_n C (pc1 := 1030) 3 d_law_1029 rfl rfl rfl ?_
  refine z_iconst C (pc1 := 1031) (v := 1) d_law_1030 rfl (by decide) ?_
  refine z_iadd C (pc1 := 1032) d_law_1031 rfl ?_
  obtain ⟨g1, h⟩ := gdn h
  refine z_sld C (pc1 := 1033) d_law_1032 rfl g1 ?_
  obtain ⟨r3, M4, hq2, h⟩ := bnd2 h
  refine z_callV C (E' := (0, 0, 447)) (pc1 := 1036) (As := [.int (xs ((i + 1) : Int32).toNatClampNeg)]) (rest := []) d_law_1033 rfl mo_Law0_128 mi_Main_sure mv_Main_sure sh_0 (by decide) rfl ⟨Nat.le_of_ble_eq_true rfl, Nat.le_of_ble_eq_true rfl⟩ rfl rfl (Nat.le_of_ble_eq_true rfl) ⟨Nat.le_of_ble_eq_true rfl, Nat.le_of_ble_eq_true rfl⟩ rfl ?_
  refine f_Main_sure hld hq2 ?_
  show Zw l p e s m below meth c bs Lx xs D cA 447 23912 1036 [(0, .ref bs), (1, .ref (s.heap.size + 0)), (2, .ref (s.heap.size + 401)), (3, .int i)] [.int r3] M4 L (rf ld)
  refine z_aload_n C (pc1 := 1037) 2 d_law_1036 rfl rfl rfl ?_
  refine z_aload_n C (pc1 := 1038) 0 d_law_1037 rfl rfl rfl ?_
  refine z_iload_n C (pc1 := 1039) 3 d_law_1038 rfl rfl rfl ?_
  refine z_iconst C (pc1 := 1040) (v := 1) d_law_1039 rfl (by decide) ?_
  refine z_iadd C (pc1 := 1041) d_law_1040 rfl ?_
  obtain ⟨g5, h⟩ := gdn h
  refine z_sld C (pc1 := 1042) d_law_1041 rfl g5 ?_
  obtain ⟨r7, M8, hq6, h⟩ := bnd2 h
  refine z_callV C (E' := (0, 0, 447)) (pc1 := 1045) (As := [.int (xs ((i + 1) : Int32).toNatClampNeg)]) (rest := [.int r3]) d_law_1042 rfl mo_Law0_131 mi_Mod_sure mv_Mod_sure sh_401 (by decide) rfl ⟨Nat.le_of_ble_eq_true rfl, Nat.le_of_ble_eq_true rfl⟩ rfl rfl (Nat.le_of_ble_eq_true rfl) ⟨Nat.le_of_ble_eq_true rfl, Nat.le_of_ble_eq_true rfl⟩ rfl ?_
  refine f_Mod_sure hld hq6 ?_
  show Zw l p e s m below meth c bs Lx xs D cA 447 23912 1045 [(0, .ref bs), (1, .ref (s.heap.size + 0)), (2, .ref (s.heap.size + 401)), (3, .int i)] [.int r7, .int r3] M8 L (rf ld)
  refine z_icmp_eq C (pc1 := 1048) (tgt := 1142) d_law_1045 (by decide) rfl (fun hc => ?_) (fun hc => ?_)
  rotate_left
  · exact absurd (itn h hc) (by decide)
  replace h := itp h hc
  obtain ⟨x9, ex9, h⟩ := ltI h
  refine z_iinc C (pc1 := 1145) (v := x9) (lv' := [(0, .ref bs), (1, .ref (s.heap.size + 0)), (2, .ref (s.heap.size + 401)), (3, .int x9)]) d_law_1142 rfl 3 rfl (by rw [ex9]; rfl) (by decide) [1, 2, 3, 0] rfl ?_
  refine z_goto C (tgt := 18) d_law_1145 (by decide) ?_
  exact hK _ _ _ _ hld h
def C_law_28 (xs : Nat → Int32) (Lx : Nat) (K : Int32 → gM → gL → Nat → Option Int32) (i : Int32) (M : gM) (L : gL) (ld : Nat) : Option Int32 :=
  (if ((i + 1) : Int32) < 0 ∨ Lx ≤ ((i + 1) : Int32).toNatClampNeg then none else bI2 (F_Main_taste ld (xs ((i + 1) : Int32).toNatClampNeg) M) (fun r3 M4 => (if ((i + 1) : Int32) < 0 ∨ Lx ≤ ((i + 1) : Int32).toNatClampNeg then none else bI2 (F_Mod_taste (xs ((i + 1) : Int32).toNatClampNeg) M4) (fun r7 M8 => nmI (i + 6) (fun x9 => K x9 M8 L ld)))))
set_option maxHeartbeats 4000000 in
set_option maxRecDepth 20000 in
theorem c_law_28 {l : Launch} {p : Program} {e : Env} {s : State} {m : MethodId} {below : List Frame} {meth : Method} {c : Code} {bs Lx : Nat} {xs : Nat → Int32} {D : va_G} {cA : Nat → ClassId} (C : ZC p s m meth c bs Lx xs D cA) (K : Int32 → gM → gL → Nat → Option Int32) (hK : ∀ (i : Int32) (M : gM) (L : gL) (ld : Nat), isLa ld → K i M L ld = some 1 → Zw l p e s m below meth c bs Lx xs D cA 447 23912 18 [(0, .ref bs), (1, .ref (s.heap.size + 0)), (2, .ref (s.heap.size + 401)), (3, .int i)] [] M L (rf ld)) {i : Int32} {M : gM} {L : gL} {ld : Nat} (hld : isLa ld) (h : C_law_28 xs Lx K i M L ld = some 1) : Zw l p e s m below meth c bs Lx xs D cA 447 23912 1050 [(0, .ref bs), (1, .ref (s.heap.size + 0)), (2, .ref (s.heap.size + 401)), (3, .int i)] [] M L (rf ld) := by
  unfold C_law_28 at h
  refine z_aload_n C (pc1 := 1051) 1 d_law_1050 rfl rfl rfl ?_
  refine z_aload_n C (pc1 := 1052) 0 d_law_1051 rfl rfl rfl ?_
  refine z_iload_n C (pc1 := 1053) 3 d_law_1052 rfl rfl rfl ?_
  refine z_iconst C (pc1 := 1054) (v := 1) d_law_1053 rfl (by decide) ?_
  refine z_iadd C (pc1 := 1055) d_law_1054 rfl ?_
  obtain ⟨g1, h⟩ := gdn h
  refine z_sld C (pc1 := 1056) d_law_1055 rfl g1 ?_
  obtain ⟨r3, M4, hq2, h⟩ := bnd2 h
  refine z_callV C (E' := (0, 0, 447)) (pc1 := 1059) (As := [.int (xs ((i + 1) : Int32).toNatClampNeg)]) (rest := []) d_law_1056 rfl mo_Law0_132 mi_Main_taste mv_Main_taste sh_0 (by decide) rfl ⟨Nat.le_of_ble_eq_true rfl, Nat.le_of_ble_eq_true rfl⟩ rfl rfl (Nat.le_of_ble_eq_true rfl) ⟨Nat.le_of_ble_eq_true rfl, Nat.le_of_ble_eq_true rfl⟩ rfl ?_
  refine f_Main_taste hld hq2 ?_
  show Zw l p e s m below meth c bs Lx xs D cA 447 23912 1059 [(0, .ref bs), (1, .ref (s.heap.size + 0)), (2, .ref (s.heap.size + 401)), (3, .int i)] [.int r3] M4 L (rf ld)
  refine z_pop C (pc1 := 1060) d_law_1059 rfl rfl ?_
  refine z_aload_n C (pc1 := 1061) 2 d_law_1060 rfl rfl rfl ?_
  refine z_aload_n C (pc1 := 1062) 0 d_law_1061 rfl rfl rfl ?_
  refine z_iload_n C (pc1 := 1063) 3 d_law_1062 rfl rfl rfl ?_
  refine z_iconst C (pc1 := 1064) (v := 1) d_law_1063 rfl (by decide) ?_
  refine z_iadd C (pc1 := 1065) d_law_1064 rfl ?_
  obtain ⟨g5, h⟩ := gdn h
  refine z_sld C (pc1 := 1066) d_law_1065 rfl g5 ?_
  obtain ⟨r7, M8, hq6, h⟩ := bnd2 h
  refine z_callV C (E' := (0, 0, 447)) (pc1 := 1069) (As := [.int (xs ((i + 1) : Int32).toNatClampNeg)]) (rest := []) d_law_1066 rfl mo_Law0_135 mi_Mod_taste mv_Mod_taste sh_401 (by decide) rfl ⟨Nat.le_of_ble_eq_true rfl, Nat.le_of_ble_eq_true rfl⟩ rfl rfl (Nat.le_of_ble_eq_true rfl) ⟨Nat.le_of_ble_eq_true rfl, Nat.le_of_ble_eq_true rfl⟩ rfl ?_
  refine f_Mod_taste hld hq6 ?_
  show Zw l p e s m below meth c bs Lx xs D cA 447 23912 1069 [(0, .ref bs), (1, .ref (s.heap.size + 0)), (2, .ref (s.heap.size + 401)), (3, .int i)] [.int r7] M8 L (rf ld)
  refine z_pop C (pc1 := 1070) d_law_1069 rfl rfl ?_
  refine z_goto C (tgt := 1142) d_law_1070 (by decide) ?_
  obtain ⟨x9, ex9, h⟩ := ltI h
  refine z_iinc C (pc1 := 1145) (v := x9) (lv' := [(0, .ref bs), (1, .ref (s.heap.size + 0)), (2, .ref (s.heap.size + 401)), (3, .int x9)]) d_law_1142 rfl 3 rfl (by rw [ex9]; rfl) (by decide) [1, 2, 3, 0] rfl ?_
  refine z_goto C (tgt := 18) d_law_1145 (by decide) ?_
  exact hK _ _ _ _ hld h
def C_law_29 (xs : Nat → Int32) (Lx : Nat) (K : Int32 → gM → gL → Nat → Option Int32) (i : Int32) (M : gM) (L : gL) (ld : Nat) : Option Int32 :=
  (if ((i + 1) : Int32) < 0 ∨ Lx ≤ ((i + 1) : Int32).toNatClampNeg then none else bI2 (F_Main_hold (xs ((i + 1) : Int32).toNatClampNeg) M) (fun r3 M4 => (if ((i + 1) : Int32) < 0 ∨ Lx ≤ ((i + 1) : Int32).toNatClampNeg then none else bI2 (F_Mod_hold (xs ((i + 1) : Int32).toNatClampNeg) M4) (fun r7 M8 => nmI (i + 6) (fun x9 => K x9 M8 L ld)))))
set_option maxHeartbeats 4000000 in
set_option maxRecDepth 20000 in
theorem c_law_29 {l : Launch} {p : Program} {e : Env} {s : State} {m : MethodId} {below : List Frame} {meth : Method} {c : Code} {bs Lx : Nat} {xs : Nat → Int32} {D : va_G} {cA : Nat → ClassId} (C : ZC p s m meth c bs Lx xs D cA) (K : Int32 → gM → gL → Nat → Option Int32) (hK : ∀ (i : Int32) (M : gM) (L : gL) (ld : Nat), isLa ld → K i M L ld = some 1 → Zw l p e s m below meth c bs Lx xs D cA 447 23912 18 [(0, .ref bs), (1, .ref (s.heap.size + 0)), (2, .ref (s.heap.size + 401)), (3, .int i)] [] M L (rf ld)) {i : Int32} {M : gM} {L : gL} {ld : Nat} (hld : isLa ld) (h : C_law_29 xs Lx K i M L ld = some 1) : Zw l p e s m below meth c bs Lx xs D cA 447 23912 1073 [(0, .ref bs), (1, .ref (s.heap.size + 0)), (2, .ref (s.heap.size + 401)), (3, .int i)] [] M L (rf ld) := by
  unfold C_law_29 at h
  refine z_aload_n C (pc1 := 1074) 1 d_law_1073 rfl rfl rfl ?_
  refine z_aload_n C (pc1 := 1075) 0 d_law_1074 rfl rfl rfl ?_
  refine z_iload_n C (pc1 := 1076) 3 d_law_1075 rfl rfl rfl ?_
  refine z_iconst C (pc1 := 1077) (v := 1) d_law_1076 rfl (by decide) ?_
  refine z_iadd C (pc1 := 1078) d_law_1077 rfl ?_
  obtain ⟨g1, h⟩ := gdn h
  refine z_sld C (pc1 := 1079) d_law_1078 rfl g1 ?_
  obtain ⟨r3, M4, hq2, h⟩ := bnd2 h
  refine z_callV C (E' := (0, 0, 447)) (pc1 := 1082) (As := [.int (xs ((i + 1) : Int32).toNatClampNeg)]) (rest := []) d_law_1079 rfl mo_Law0_136 mi_Main_hold mv_Main_hold sh_0 (by decide) rfl ⟨Nat.le_of_ble_eq_true rfl, Nat.le_of_ble_eq_true rfl⟩ rfl rfl (Nat.le_of_ble_eq_true rfl) ⟨Nat.le_of_ble_eq_true rfl, Nat.le_of_ble_eq_true rfl⟩ rfl ?_
  refine f_Main_hold hld hq2 ?_
  show Zw l p e s m below meth c bs Lx xs D cA 447 23912 1082 [(0, .ref bs), (1, .ref (s.heap.size + 0)), (2, .ref (s.heap.size + 401)), (3, .int i)] [.int r3] M4 L (rf ld)
  refine z_pop C (pc1 := 1083) d_law_1082 rfl rfl ?_
  refine z_aload_n C (pc1 := 1084) 2 d_law_1083 rfl rfl rfl ?_
  refine z_aload_n C (pc1 := 1085) 0 d_law_1084 rfl rfl rfl ?_
  refine z_iload_n C (pc1 := 1086) 3 d_law_1085 rfl rfl rfl ?_
  refine z_iconst C (pc1 := 1087) (v := 1) d_law_1086 rfl (by decide) ?_
  refine z_iadd C (pc1 := 1088) d_law_1087 rfl ?_
  obtain ⟨g5, h⟩ := gdn h
  refine z_sld C (pc1 := 1089) d_law_1088 rfl g5 ?_
  obtain ⟨r7, M8, hq6, h⟩ := bnd2 h
  refine z_callV C (E' := (0, 0, 447)) (pc1 := 1092) (As := [.int (xs ((i + 1) : Int32).toNatClampNeg)]) (rest := []) d_law_1089 rfl mo_Law0_140 mi_Mod_hold mv_Mod_hold sh_401 (by decide) rfl ⟨Nat.le_of_ble_eq_true rfl, Nat.le_of_ble_eq_true rfl⟩ rfl rfl (Nat.le_of_ble_eq_true rfl) ⟨Nat.le_of_ble_eq_true rfl, Nat.le_of_ble_eq_true rfl⟩ rfl ?_
  refine f_Mod_hold hld hq6 ?_
  show Zw l p e s m below meth c bs Lx xs D cA 447 23912 1092 [(0, .ref bs), (1, .ref (s.heap.size + 0)), (2, .ref (s.heap.size + 401)), (3, .int i)] [.int r7] M8 L (rf ld)
  refine z_pop C (pc1 := 1093) d_law_1092 rfl rfl ?_
  refine z_goto C (tgt := 1142) d_law_1093 (by decide) ?_
  obtain ⟨x9, ex9, h⟩ := ltI h
  refine z_iinc C (pc1 := 1145) (v := x9) (lv' := [(0, .ref bs), (1, .ref (s.heap.size + 0)), (2, .ref (s.heap.size + 401)), (3, .int x9)]) d_law_1142 rfl 3 rfl (by rw [ex9]; rfl) (by decide) [1, 2, 3, 0] rfl ?_
  refine z_goto C (tgt := 18) d_law_1145 (by decide) ?_
  exact hK _ _ _ _ hld h
def C_law_30 (xs : Nat → Int32) (Lx : Nat) (K : Int32 → gM → gL → Nat → Option Int32) (i : Int32) (M : gM) (L : gL) (ld : Nat) : Option Int32 :=
  (if ((i + 1) : Int32) < 0 ∨ Lx ≤ ((i + 1) : Int32).toNatClampNeg then none else bI2 (F_Main_restore (xs ((i + 1) : Int32).toNatClampNeg) M) (fun r3 M4 => (if ((i + 1) : Int32) < 0 ∨ Lx ≤ ((i + 1) : Int32).toNatClampNeg then none else bI2 (F_Mod_restore (xs ((i + 1) : Int32).toNatClampNeg) M4) (fun r7 M8 => nmI (i + 6) (fun x9 => K x9 M8 L ld)))))
set_option maxHeartbeats 4000000 in
set_option maxRecDepth 20000 in
theorem c_law_30 {l : Launch} {p : Program} {e : Env} {s : State} {m : MethodId} {below : List Frame} {meth : Method} {c : Code} {bs Lx : Nat} {xs : Nat → Int32} {D : va_G} {cA : Nat → ClassId} (C : ZC p s m meth c bs Lx xs D cA) (K : Int32 → gM → gL → Nat → Option Int32) (hK : ∀ (i : Int32) (M : gM) (L : gL) (ld : Nat), isLa ld → K i M L ld = some 1 → Zw l p e s m below meth c bs Lx xs D cA 447 23912 18 [(0, .ref bs), (1, .ref (s.heap.size + 0)), (2, .ref (s.heap.size + 401)), (3, .int i)] [] M L (rf ld)) {i : Int32} {M : gM} {L : gL} {ld : Nat} (hld : isLa ld) (h : C_law_30 xs Lx K i M L ld = some 1) : Zw l p e s m below meth c bs Lx xs D cA 447 23912 1096 [(0, .ref bs), (1, .ref (s.heap.size + 0)), (2, .ref (s.heap.size + 401)), (3, .int i)] [] M L (rf ld) := by
  unfold C_law_30 at h
  refine z_aload_n C (pc1 := 1097) 1 d_law_1096 rfl rfl rfl ?_
  refine z_aload_n C (pc1 := 1098) 0 d_law_1097 rfl rfl rfl ?_
  refine z_iload_n C (pc1 := 1099) 3 d_law_1098 rfl rfl rfl ?_
  refine z_iconst C (pc1 := 1100) (v := 1) d_law_1099 rfl (by decide) ?_
  refine z_iadd C (pc1 := 1101) d_law_1100 rfl ?_
  obtain ⟨g1, h⟩ := gdn h
  refine z_sld C (pc1 := 1102) d_law_1101 rfl g1 ?_
  obtain ⟨r3, M4, hq2, h⟩ := bnd2 h
  refine z_callV C (E' := (0, 0, 447)) (pc1 := 1105) (As := [.int (xs ((i + 1) : Int32).toNatClampNeg)]) (rest := []) d_law_1102 rfl mo_Law0_141 mi_Main_restore mv_Main_restore sh_0 (by decide) rfl ⟨Nat.le_of_ble_eq_true rfl, Nat.le_of_ble_eq_true rfl⟩ rfl rfl (Nat.le_of_ble_eq_true rfl) ⟨Nat.le_of_ble_eq_true rfl, Nat.le_of_ble_eq_true rfl⟩ rfl ?_
  refine f_Main_restore hld hq2 ?_
  show Zw l p e s m below meth c bs Lx xs D cA 447 23912 1105 [(0, .ref bs), (1, .ref (s.heap.size + 0)), (2, .ref (s.heap.size + 401)), (3, .int i)] [.int r3] M4 L (rf ld)
  refine z_pop C (pc1 := 1106) d_law_1105 rfl rfl ?_
  refine z_aload_n C (pc1 := 1107) 2 d_law_1106 rfl rfl rfl ?_
  refine z_aload_n C (pc1 := 1108) 0 d_law_1107 rfl rfl rfl ?_
  refine z_iload_n C (pc1 := 1109) 3 d_law_1108 rfl rfl rfl ?_
  refine z_iconst C (pc1 := 1110) (v := 1) d_law_1109 rfl (by decide) ?_
  refine z_iadd C (pc1 := 1111) d_law_1110 rfl ?_
  obtain ⟨g5, h⟩ := gdn h
  refine z_sld C (pc1 := 1112) d_law_1111 rfl g5 ?_
  obtain ⟨r7, M8, hq6, h⟩ := bnd2 h
  refine z_callV C (E' := (0, 0, 447)) (pc1 := 1115) (As := [.int (xs ((i + 1) : Int32).toNatClampNeg)]) (rest := []) d_law_1112 rfl mo_Law0_144 mi_Mod_restore mv_Mod_restore sh_401 (by decide) rfl ⟨Nat.le_of_ble_eq_true rfl, Nat.le_of_ble_eq_true rfl⟩ rfl rfl (Nat.le_of_ble_eq_true rfl) ⟨Nat.le_of_ble_eq_true rfl, Nat.le_of_ble_eq_true rfl⟩ rfl ?_
  refine f_Mod_restore hld hq6 ?_
  show Zw l p e s m below meth c bs Lx xs D cA 447 23912 1115 [(0, .ref bs), (1, .ref (s.heap.size + 0)), (2, .ref (s.heap.size + 401)), (3, .int i)] [.int r7] M8 L (rf ld)
  refine z_pop C (pc1 := 1116) d_law_1115 rfl rfl ?_
  refine z_goto C (tgt := 1142) d_law_1116 (by decide) ?_
  obtain ⟨x9, ex9, h⟩ := ltI h
  refine z_iinc C (pc1 := 1145) (v := x9) (lv' := [(0, .ref bs), (1, .ref (s.heap.size + 0)), (2, .ref (s.heap.size + 401)), (3, .int x9)]) d_law_1142 rfl 3 rfl (by rw [ex9]; rfl) (by decide) [1, 2, 3, 0] rfl ?_
  refine z_goto C (tgt := 18) d_law_1145 (by decide) ?_
  exact hK _ _ _ _ hld h
def C_law_31 (xs : Nat → Int32) (Lx : Nat) (K : Int32 → gM → gL → Nat → Option Int32) (i : Int32) (M : gM) (L : gL) (ld : Nat) : Option Int32 :=
  (if ((i + 1) : Int32) < 0 ∨ Lx ≤ ((i + 1) : Int32).toNatClampNeg then none else bI (F_Main_count ld (xs ((i + 1) : Int32).toNatClampNeg) M) (fun r3 => (if ((i + 1) : Int32) < 0 ∨ Lx ≤ ((i + 1) : Int32).toNatClampNeg then none else bI (F_Mod_count (xs ((i + 1) : Int32).toNatClampNeg) M) (fun r6 => nmI (i + 6) (fun x7 => K x7 M L ld)))))
set_option maxHeartbeats 4000000 in
set_option maxRecDepth 20000 in
theorem c_law_31 {l : Launch} {p : Program} {e : Env} {s : State} {m : MethodId} {below : List Frame} {meth : Method} {c : Code} {bs Lx : Nat} {xs : Nat → Int32} {D : va_G} {cA : Nat → ClassId} (C : ZC p s m meth c bs Lx xs D cA) (K : Int32 → gM → gL → Nat → Option Int32) (hK : ∀ (i : Int32) (M : gM) (L : gL) (ld : Nat), isLa ld → K i M L ld = some 1 → Zw l p e s m below meth c bs Lx xs D cA 447 23912 18 [(0, .ref bs), (1, .ref (s.heap.size + 0)), (2, .ref (s.heap.size + 401)), (3, .int i)] [] M L (rf ld)) {i : Int32} {M : gM} {L : gL} {ld : Nat} (hld : isLa ld) (h : C_law_31 xs Lx K i M L ld = some 1) : Zw l p e s m below meth c bs Lx xs D cA 447 23912 1119 [(0, .ref bs), (1, .ref (s.heap.size + 0)), (2, .ref (s.heap.size + 401)), (3, .int i)] [] M L (rf ld) := by
  unfold C_law_31 at h
  refine z_aload_n C (pc1 := 1120) 1 d_law_1119 rfl rfl rfl ?_
  refine z_aload_n C (pc1 := 1121) 0 d_law_1120 rfl rfl rfl ?_
  refine z_iload_n C (pc1 := 1122) 3 d_law_1121 rfl rfl rfl ?_
  refine z_iconst C (pc1 := 1123) (v := 1) d_law_1122 rfl (by decide) ?_
  refine z_iadd C (pc1 := 1124) d_law_1123 rfl ?_
  obtain ⟨g1, h⟩ := gdn h
  refine z_sld C (pc1 := 1125) d_law_1124 rfl g1 ?_
  obtain ⟨r3, hq2, h⟩ := bnd h
  refine z_callV C (E' := (0, 0, 447)) (pc1 := 1128) (As := [.int (xs ((i + 1) : Int32).toNatClampNeg)]) (rest := []) d_law_1125 rfl mo_Law0_145 mi_Main_count mv_Main_count sh_0 (by decide) rfl ⟨Nat.le_of_ble_eq_true rfl, Nat.le_of_ble_eq_true rfl⟩ rfl rfl (Nat.le_of_ble_eq_true rfl) ⟨Nat.le_of_ble_eq_true rfl, Nat.le_of_ble_eq_true rfl⟩ rfl ?_
  refine f_Main_count hld hq2 ?_
  show Zw l p e s m below meth c bs Lx xs D cA 447 23912 1128 [(0, .ref bs), (1, .ref (s.heap.size + 0)), (2, .ref (s.heap.size + 401)), (3, .int i)] [.int r3] M L (rf ld)
  refine z_pop C (pc1 := 1129) d_law_1128 rfl rfl ?_
  refine z_aload_n C (pc1 := 1130) 2 d_law_1129 rfl rfl rfl ?_
  refine z_aload_n C (pc1 := 1131) 0 d_law_1130 rfl rfl rfl ?_
  refine z_iload_n C (pc1 := 1132) 3 d_law_1131 rfl rfl rfl ?_
  refine z_iconst C (pc1 := 1133) (v := 1) d_law_1132 rfl (by decide) ?_
  refine z_iadd C (pc1 := 1134) d_law_1133 rfl ?_
  obtain ⟨g4, h⟩ := gdn h
  refine z_sld C (pc1 := 1135) d_law_1134 rfl g4 ?_
  obtain ⟨r6, hq5, h⟩ := bnd h
  refine z_callV C (E' := (0, 0, 447)) (pc1 := 1138) (As := [.int (xs ((i + 1) : Int32).toNatClampNeg)]) (rest := []) d_law_1135 rfl mo_Law0_148 mi_Mod_count mv_Mod_count sh_401 (by decide) rfl ⟨Nat.le_of_ble_eq_true rfl, Nat.le_of_ble_eq_true rfl⟩ rfl rfl (Nat.le_of_ble_eq_true rfl) ⟨Nat.le_of_ble_eq_true rfl, Nat.le_of_ble_eq_true rfl⟩ rfl ?_
  refine f_Mod_count hld hq5 ?_
  show Zw l p e s m below meth c bs Lx xs D cA 447 23912 1138 [(0, .ref bs), (1, .ref (s.heap.size + 0)), (2, .ref (s.heap.size + 401)), (3, .int i)] [.int r6] M L (rf ld)
  refine z_pop C (pc1 := 1139) d_law_1138 rfl rfl ?_
  refine z_goto C (tgt := 1142) d_law_1139 (by decide) ?_
  obtain ⟨x7, ex7, h⟩ := ltI h
  refine z_iinc C (pc1 := 1145) (v := x7) (lv' := [(0, .ref bs), (1, .ref (s.heap.size + 0)), (2, .ref (s.heap.size + 401)), (3, .int x7)]) d_law_1142 rfl 3 rfl (by rw [ex7]; rfl) (by decide) [1, 2, 3, 0] rfl ?_
  refine z_goto C (tgt := 18) d_law_1145 (by decide) ?_
  exact hK _ _ _ _ hld h
def B_law (xs : Nat → Int32) (Lx : Nat) (K : Int32 → gM → gL → Nat → Option Int32) : Int32 → gM → gL → Nat → Option Int32 := fun i M L ld =>
  (if (Int32.ofNat Lx - 6) < i then some 1 else (if (i : Int32) < 0 ∨ Lx ≤ (i : Int32).toNatClampNeg then none else (if (xs (i : Int32).toNatClampNeg &&& 31) = 0 then C_law_0 xs Lx K i M L ld else (if (xs (i : Int32).toNatClampNeg &&& 31) = 1 then C_law_1 xs Lx K i M L ld else (if (xs (i : Int32).toNatClampNeg &&& 31) = 2 then C_law_2 xs Lx K i M L ld else (if (xs (i : Int32).toNatClampNeg &&& 31) = 3 then C_law_3 xs Lx K i M L ld else (if (xs (i : Int32).toNatClampNeg &&& 31) = 4 then C_law_4 xs Lx K i M L ld else (if (xs (i : Int32).toNatClampNeg &&& 31) = 5 then C_law_5 xs Lx K i M L ld else (if (xs (i : Int32).toNatClampNeg &&& 31) = 6 then C_law_6 xs Lx K i M L ld else (if (xs (i : Int32).toNatClampNeg &&& 31) = 7 then C_law_7 xs Lx K i M L ld else (if (xs (i : Int32).toNatClampNeg &&& 31) = 8 then C_law_8 xs Lx K i M L ld else (if (xs (i : Int32).toNatClampNeg &&& 31) = 9 then C_law_9 xs Lx K i M L ld else (if (xs (i : Int32).toNatClampNeg &&& 31) = 10 then C_law_10 xs Lx K i M L ld else (if (xs (i : Int32).toNatClampNeg &&& 31) = 11 then C_law_11 xs Lx K i M L ld else (if (xs (i : Int32).toNatClampNeg &&& 31) = 12 then C_law_12 xs Lx K i M L ld else (if (xs (i : Int32).toNatClampNeg &&& 31) = 13 then C_law_13 xs Lx K i M L ld else (if (xs (i : Int32).toNatClampNeg &&& 31) = 14 then C_law_14 xs Lx K i M L ld else (if (xs (i : Int32).toNatClampNeg &&& 31) = 15 then C_law_15 xs Lx K i M L ld else (if (xs (i : Int32).toNatClampNeg &&& 31) = 16 then C_law_16 xs Lx K i M L ld else (if (xs (i : Int32).toNatClampNeg &&& 31) = 17 then C_law_17 xs Lx K i M L ld else (if (xs (i : Int32).toNatClampNeg &&& 31) = 18 then C_law_18 xs Lx K i M L ld else (if (xs (i : Int32).toNatClampNeg &&& 31) = 19 then C_law_19 xs Lx K i M L ld else (if (xs (i : Int32).toNatClampNeg &&& 31) = 20 then C_law_20 xs Lx K i M L ld else (if (xs (i : Int32).toNatClampNeg &&& 31) = 21 then C_law_21 xs Lx K i M L ld else (if (xs (i : Int32).toNatClampNeg &&& 31) = 22 then C_law_22 xs Lx K i M L ld else (if (xs (i : Int32).toNatClampNeg &&& 31) = 23 then C_law_23 xs Lx K i M L ld else (if (xs (i : Int32).toNatClampNeg &&& 31) = 24 then C_law_24 xs Lx K i M L ld else (if (xs (i : Int32).toNatClampNeg &&& 31) = 25 then C_law_25 xs Lx K i M L ld else (if (xs (i : Int32).toNatClampNeg &&& 31) = 26 then C_law_26 xs Lx K i M L ld else (if (xs (i : Int32).toNatClampNeg &&& 31) = 27 then C_law_27 xs Lx K i M L ld else (if (xs (i : Int32).toNatClampNeg &&& 31) = 28 then C_law_28 xs Lx K i M L ld else (if (xs (i : Int32).toNatClampNeg &&& 31) = 29 then C_law_29 xs Lx K i M L ld else (if (xs (i : Int32).toNatClampNeg &&& 31) = 30 then C_law_30 xs Lx K i M L ld else (if (xs (i : Int32).toNatClampNeg &&& 31) = 31 then C_law_31 xs Lx K i M L ld else nmI (i + 6) (fun x => K x M L ld)))))))))))))))))))))))))))))))))))
def H_law (xs : Nat → Int32) (Lx : Nat) : Nat → Int32 → gM → gL → Nat → Option Int32 := lpK (B_law xs Lx) (fun _ _ _ _ => none)
set_option maxHeartbeats 4000000 in
set_option maxRecDepth 20000 in
theorem h_law {l : Launch} {p : Program} {e : Env} {s : State} {m : MethodId} {below : List Frame} {meth : Method} {c : Code} {bs Lx : Nat} {xs : Nat → Int32} {D : va_G} {cA : Nat → ClassId} (C : ZC p s m meth c bs Lx xs D cA) : ∀ (f : Nat) (i : Int32) (M : gM) (L : gL) (ld : Nat), isLa ld → H_law xs Lx f i M L ld = some 1 → Zw l p e s m below meth c bs Lx xs D cA 447 23912 18 [(0, .ref bs), (1, .ref (s.heap.size + 0)), (2, .ref (s.heap.size + 401)), (3, .int i)] [] M L (rf ld) := by
  intro f
  induction f with
  | zero => intro i M L ld hld h; cases h
  | succ f hK =>
    intro i M L ld hld h
    replace h : B_law xs Lx (H_law xs Lx f) i M L ld = some 1 := h
    unfold B_law at h
    refine z_iload_n C (pc1 := 19) 3 d_law_18 rfl rfl rfl ?_
    refine z_aload_n C (pc1 := 20) 0 d_law_19 rfl rfl rfl ?_
    refine z_slen C (pc1 := 21) d_law_20 rfl ?_
    refine z_bipush C (pc1 := 23) (v := 6) d_law_21 rfl (by decide) ?_
    refine z_isub C (pc1 := 24) d_law_23 rfl ?_
    refine z_icmp_gt C (pc1 := 27) (tgt := 1148) d_law_24 (by decide) rfl (fun hc => ?_) (fun hc => ?_)
    · refine z_iconst C (pc1 := 1149) (v := 1) d_law_1148 rfl (by decide) ?_
      exact z_end C d_law_1149 (Nat.le_of_ble_eq_true rfl) (Nat.le_of_ble_eq_true rfl)
    replace h := itn h hc
    obtain ⟨g, h⟩ := gdn h
    refine z_aload_n C (pc1 := 28) 0 d_law_27 rfl rfl rfl ?_
    refine z_iload_n C (pc1 := 29) 3 d_law_28 rfl rfl rfl ?_
    refine z_sld C (pc1 := 30) d_law_29 rfl g ?_
    refine z_bipush C (pc1 := 32) (v := 31) d_law_30 rfl (by decide) ?_
    refine z_iand C (pc1 := 33) d_law_32 rfl ?_
    by_cases c0 : (xs (i : Int32).toNatClampNeg &&& 31) = 0
    · exact z_tabK C (tgt := 176) (off := 143) d_law_33 c0 (by decide) (by decide) (by decide) (by decide) (c_law_0 C (H_law xs Lx f) hK hld (itp h c0))
    replace h := itn h c0
    by_cases c1 : (xs (i : Int32).toNatClampNeg &&& 31) = 1
    · exact z_tabK C (tgt := 239) (off := 206) d_law_33 c1 (by decide) (by decide) (by decide) (by decide) (c_law_1 C (H_law xs Lx f) hK hld (itp h c1))
    replace h := itn h c1
    by_cases c2 : (xs (i : Int32).toNatClampNeg &&& 31) = 2
    · exact z_tabK C (tgt := 262) (off := 229) d_law_33 c2 (by decide) (by decide) (by decide) (by decide) (c_law_2 C (H_law xs Lx f) hK hld (itp h c2))
    replace h := itn h c2
    by_cases c3 : (xs (i : Int32).toNatClampNeg &&& 31) = 3
    · exact z_tabK C (tgt := 275) (off := 242) d_law_33 c3 (by decide) (by decide) (by decide) (by decide) (c_law_3 C (H_law xs Lx f) hK hld (itp h c3))
    replace h := itn h c3
    by_cases c4 : (xs (i : Int32).toNatClampNeg &&& 31) = 4
    · exact z_tabK C (tgt := 288) (off := 255) d_law_33 c4 (by decide) (by decide) (by decide) (by decide) (c_law_4 C (H_law xs Lx f) hK hld (itp h c4))
    replace h := itn h c4
    by_cases c5 : (xs (i : Int32).toNatClampNeg &&& 31) = 5
    · exact z_tabK C (tgt := 321) (off := 288) d_law_33 c5 (by decide) (by decide) (by decide) (by decide) (c_law_5 C (H_law xs Lx f) hK hld (itp h c5))
    replace h := itn h c5
    by_cases c6 : (xs (i : Int32).toNatClampNeg &&& 31) = 6
    · exact z_tabK C (tgt := 354) (off := 321) d_law_33 c6 (by decide) (by decide) (by decide) (by decide) (c_law_6 C (H_law xs Lx f) hK hld (itp h c6))
    replace h := itn h c6
    by_cases c7 : (xs (i : Int32).toNatClampNeg &&& 31) = 7
    · exact z_tabK C (tgt := 387) (off := 354) d_law_33 c7 (by decide) (by decide) (by decide) (by decide) (c_law_7 C (H_law xs Lx f) hK hld (itp h c7))
    replace h := itn h c7
    by_cases c8 : (xs (i : Int32).toNatClampNeg &&& 31) = 8
    · exact z_tabK C (tgt := 420) (off := 387) d_law_33 c8 (by decide) (by decide) (by decide) (by decide) (c_law_8 C (H_law xs Lx f) hK hld (itp h c8))
    replace h := itn h c8
    by_cases c9 : (xs (i : Int32).toNatClampNeg &&& 31) = 9
    · exact z_tabK C (tgt := 453) (off := 420) d_law_33 c9 (by decide) (by decide) (by decide) (by decide) (c_law_9 C (H_law xs Lx f) hK hld (itp h c9))
    replace h := itn h c9
    by_cases c10 : (xs (i : Int32).toNatClampNeg &&& 31) = 10
    · exact z_tabK C (tgt := 476) (off := 443) d_law_33 c10 (by decide) (by decide) (by decide) (by decide) (c_law_10 C (H_law xs Lx f) hK hld (itp h c10))
    replace h := itn h c10
    by_cases c11 : (xs (i : Int32).toNatClampNeg &&& 31) = 11
    · exact z_tabK C (tgt := 499) (off := 466) d_law_33 c11 (by decide) (by decide) (by decide) (by decide) (c_law_11 C (H_law xs Lx f) hK hld (itp h c11))
    replace h := itn h c11
    by_cases c12 : (xs (i : Int32).toNatClampNeg &&& 31) = 12
    · exact z_tabK C (tgt := 522) (off := 489) d_law_33 c12 (by decide) (by decide) (by decide) (by decide) (c_law_12 C (H_law xs Lx f) hK hld (itp h c12))
    replace h := itn h c12
    by_cases c13 : (xs (i : Int32).toNatClampNeg &&& 31) = 13
    · exact z_tabK C (tgt := 535) (off := 502) d_law_33 c13 (by decide) (by decide) (by decide) (by decide) (c_law_13 C (H_law xs Lx f) hK hld (itp h c13))
    replace h := itn h c13
    by_cases c14 : (xs (i : Int32).toNatClampNeg &&& 31) = 14
    · exact z_tabK C (tgt := 588) (off := 555) d_law_33 c14 (by decide) (by decide) (by decide) (by decide) (c_law_14 C (H_law xs Lx f) hK hld (itp h c14))
    replace h := itn h c14
    by_cases c15 : (xs (i : Int32).toNatClampNeg &&& 31) = 15
    · exact z_tabK C (tgt := 621) (off := 588) d_law_33 c15 (by decide) (by decide) (by decide) (by decide) (c_law_15 C (H_law xs Lx f) hK hld (itp h c15))
    replace h := itn h c15
    by_cases c16 : (xs (i : Int32).toNatClampNeg &&& 31) = 16
    · exact z_tabK C (tgt := 654) (off := 621) d_law_33 c16 (by decide) (by decide) (by decide) (by decide) (c_law_16 C (H_law xs Lx f) hK hld (itp h c16))
    replace h := itn h c16
    by_cases c17 : (xs (i : Int32).toNatClampNeg &&& 31) = 17
    · exact z_tabK C (tgt := 667) (off := 634) d_law_33 c17 (by decide) (by decide) (by decide) (by decide) (c_law_17 C (H_law xs Lx f) hK hld (itp h c17))
    replace h := itn h c17
    by_cases c18 : (xs (i : Int32).toNatClampNeg &&& 31) = 18
    · exact z_tabK C (tgt := 710) (off := 677) d_law_33 c18 (by decide) (by decide) (by decide) (by decide) (c_law_18 C (H_law xs Lx f) hK hld (itp h c18))
    replace h := itn h c18
    by_cases c19 : (xs (i : Int32).toNatClampNeg &&& 31) = 19
    · exact z_tabK C (tgt := 763) (off := 730) d_law_33 c19 (by decide) (by decide) (by decide) (by decide) (c_law_19 C (H_law xs Lx f) hK hld (itp h c19))
    replace h := itn h c19
    by_cases c20 : (xs (i : Int32).toNatClampNeg &&& 31) = 20
    · exact z_tabK C (tgt := 786) (off := 753) d_law_33 c20 (by decide) (by decide) (by decide) (by decide) (c_law_20 C (H_law xs Lx f) hK hld (itp h c20))
    replace h := itn h c20
    by_cases c21 : (xs (i : Int32).toNatClampNeg &&& 31) = 21
    · exact z_tabK C (tgt := 819) (off := 786) d_law_33 c21 (by decide) (by decide) (by decide) (by decide) (c_law_21 C (H_law xs Lx f) hK hld (itp h c21))
    replace h := itn h c21
    by_cases c22 : (xs (i : Int32).toNatClampNeg &&& 31) = 22
    · exact z_tabK C (tgt := 852) (off := 819) d_law_33 c22 (by decide) (by decide) (by decide) (by decide) (c_law_22 C (H_law xs Lx f) hK hld (itp h c22))
    replace h := itn h c22
    by_cases c23 : (xs (i : Int32).toNatClampNeg &&& 31) = 23
    · exact z_tabK C (tgt := 895) (off := 862) d_law_33 c23 (by decide) (by decide) (by decide) (by decide) (c_law_23 C (H_law xs Lx f) hK hld (itp h c23))
    replace h := itn h c23
    by_cases c24 : (xs (i : Int32).toNatClampNeg &&& 31) = 24
    · exact z_tabK C (tgt := 948) (off := 915) d_law_33 c24 (by decide) (by decide) (by decide) (by decide) (c_law_24 C (H_law xs Lx f) hK hld (itp h c24))
    replace h := itn h c24
    by_cases c25 : (xs (i : Int32).toNatClampNeg &&& 31) = 25
    · exact z_tabK C (tgt := 991) (off := 958) d_law_33 c25 (by decide) (by decide) (by decide) (by decide) (c_law_25 C (H_law xs Lx f) hK hld (itp h c25))
    replace h := itn h c25
    by_cases c26 : (xs (i : Int32).toNatClampNeg &&& 31) = 26
    · exact z_tabK C (tgt := 1004) (off := 971) d_law_33 c26 (by decide) (by decide) (by decide) (by decide) (c_law_26 C (H_law xs Lx f) hK hld (itp h c26))
    replace h := itn h c26
    by_cases c27 : (xs (i : Int32).toNatClampNeg &&& 31) = 27
    · exact z_tabK C (tgt := 1027) (off := 994) d_law_33 c27 (by decide) (by decide) (by decide) (by decide) (c_law_27 C (H_law xs Lx f) hK hld (itp h c27))
    replace h := itn h c27
    by_cases c28 : (xs (i : Int32).toNatClampNeg &&& 31) = 28
    · exact z_tabK C (tgt := 1050) (off := 1017) d_law_33 c28 (by decide) (by decide) (by decide) (by decide) (c_law_28 C (H_law xs Lx f) hK hld (itp h c28))
    replace h := itn h c28
    by_cases c29 : (xs (i : Int32).toNatClampNeg &&& 31) = 29
    · exact z_tabK C (tgt := 1073) (off := 1040) d_law_33 c29 (by decide) (by decide) (by decide) (by decide) (c_law_29 C (H_law xs Lx f) hK hld (itp h c29))
    replace h := itn h c29
    by_cases c30 : (xs (i : Int32).toNatClampNeg &&& 31) = 30
    · exact z_tabK C (tgt := 1096) (off := 1063) d_law_33 c30 (by decide) (by decide) (by decide) (by decide) (c_law_30 C (H_law xs Lx f) hK hld (itp h c30))
    replace h := itn h c30
    by_cases c31 : (xs (i : Int32).toNatClampNeg &&& 31) = 31
    · exact z_tabK C (tgt := 1119) (off := 1086) d_law_33 c31 (by decide) (by decide) (by decide) (by decide) (c_law_31 C (H_law xs Lx f) hK hld (itp h c31))
    replace h := itn h c31
    exact absurd (op_32 (xs i.toNatClampNeg)) (by
      intro hh
      rcases hh with hh | hh | hh | hh | hh | hh | hh | hh | hh | hh | hh | hh | hh | hh | hh | hh | hh | hh | hh | hh | hh | hh | hh | hh | hh | hh | hh | hh | hh | hh | hh | hh
      · exact c0 hh
      · exact c1 hh
      · exact c2 hh
      · exact c3 hh
      · exact c4 hh
      · exact c5 hh
      · exact c6 hh
      · exact c7 hh
      · exact c8 hh
      · exact c9 hh
      · exact c10 hh
      · exact c11 hh
      · exact c12 hh
      · exact c13 hh
      · exact c14 hh
      · exact c15 hh
      · exact c16 hh
      · exact c17 hh
      · exact c18 hh
      · exact c19 hh
      · exact c20 hh
      · exact c21 hh
      · exact c22 hh
      · exact c23 hh
      · exact c24 hh
      · exact c25 hh
      · exact c26 hh
      · exact c27 hh
      · exact c28 hh
      · exact c29 hh
      · exact c30 hh
      · exact c31 hh
      )
end MG6x2
section MG6x3
def mkK (s : State) (n : Nat) (f : Nat → ClassId × (Nat → Nat)) : Prop := ∀ k, k < n → ∀ r : vw_C, cls[k]? = some r → u_Kn s r.1 r.2.1 r.2.2 (f k).1 (f k).2
theorem lw_K {p : Program} {s : State} {m : MethodId} {meth : Method} {c : Code} {b L : Nat} {xs : Nat → Int32} (C0 : lw_At p s m meth c b L xs) : ∃ (D : va_G) (cA : Nat → ClassId), gK D cA s := by
  obtain ⟨hx, hb, hr, hml, hown, hts, hX, hbl, hlocks, hgv⟩ := C0
  obtain ⟨c0, f0, h0⟩ := u_known (C := "CookedLaw") (T := T_Main) (N := 12) (n := 12) hts (fun w h => (in_Main w h).1) (hts _ (gtb_tbl _ cn_Main))
  obtain ⟨c1, f1, h1⟩ := u_known (C := "CookedLaw$Tape") (T := T_Tape) (N := 2) (n := 2) hts (fun w h => (in_Tape w h).1) (hts _ (gtb_tbl _ cn_Tape))
  obtain ⟨c2, f2, h2⟩ := u_known (C := "CookedLaw$Reader") (T := T_Reader) (N := 12) (n := 12) hts (fun w h => (in_Reader w h).1) (hts _ (gtb_tbl _ cn_Reader))
  obtain ⟨c3, f3, h3⟩ := u_known (C := "CookedLaw$Tokens") (T := T_Tokens) (N := 4) (n := 4) hts (fun w h => (in_Tokens w h).1) (hts _ (gtb_tbl _ cn_Tokens))
  obtain ⟨c4, f4, h4⟩ := u_known (C := "CookedLaw$Land") (T := T_Land) (N := 18) (n := 18) hts (fun w h => (in_Land w h).1) (hts _ (gtb_tbl _ cn_Land))
  obtain ⟨c5, f5, h5⟩ := u_known (C := "CookedLaw$Law") (T := T_Law) (N := 4) (n := 4) hts (fun w h => (in_Law w h).1) (hts _ (gtb_tbl _ cn_Law))
  obtain ⟨c6, f6, h6⟩ := u_known (C := "CookedLaw$State") (T := T_State) (N := 10) (n := 10) hts (fun w h => (in_State w h).1) (hts _ (gtb_tbl _ cn_State))
  obtain ⟨c7, f7, h7⟩ := u_known (C := "CookedLaw$Past") (T := T_Past) (N := 3) (n := 3) hts (fun w h => (in_Past w h).1) (hts _ (gtb_tbl _ cn_Past))
  obtain ⟨c8, f8, h8⟩ := u_known (C := "CookedLaw$Slots") (T := T_Slots) (N := 2) (n := 2) hts (fun w h => (in_Slots w h).1) (hts _ (gtb_tbl _ cn_Slots))
  obtain ⟨c9, f9, h9⟩ := u_known (C := "CookedLaw$Told") (T := T_Told) (N := 9) (n := 9) hts (fun w h => (in_Told w h).1) (hts _ (gtb_tbl _ cn_Told))
  obtain ⟨c10, f10, h10⟩ := u_known (C := "CookedLaw$PotSearch") (T := T_PotSearch) (N := 11) (n := 11) hts (fun w h => (in_PotSearch w h).1) (hts _ (gtb_tbl _ cn_PotSearch))
  obtain ⟨c11, f11, h11⟩ := u_known (C := "CookedLaw$MenuSearch") (T := T_MenuSearch) (N := 5) (n := 5) hts (fun w h => (in_MenuSearch w h).1) (hts _ (gtb_tbl _ cn_MenuSearch))
  obtain ⟨c12, f12, h12⟩ := u_known (C := "CookedLawModel") (T := T_Mod) (N := 71) (n := 71) hts (fun w h => (in_Mod w h).1) (hts _ (gtb_tbl _ cn_Mod))
  obtain ⟨a0, k0, m0, p0, q0, r0⟩ := Cond.arrayClass_spec (hts _ (gtb_tbl _ ca_int))
  obtain ⟨a1, k1, m1, p1, q1, r1⟩ := Cond.arrayClass_spec (hts _ (gtb_tbl _ ca_byte))
  obtain ⟨a2, k2, m2, p2, q2, r2⟩ := Cond.arrayClass_spec (hts _ (gtb_tbl _ ca_boolean))
  obtain ⟨a3, k3, m3, p3, q3, r3⟩ := Cond.arrayClass_spec (hts _ (gtb_tbl _ ca_long))
  have hao : (Cond.arrayOver (.object "CookedLaw$State")).before #[Value.ref b] s = true := hts _ (by decide +kernel)
  obtain ⟨m4, a4, k4, u4, v4, q4, r4, p4⟩ := Cond.arrayOver_spec hao
  refine ⟨(fun i => match i with | 0 => c0 | 1 => c1 | 2 => c2 | 3 => c3 | 4 => c4 | 5 => c5 | 6 => c6 | 7 => c7 | 8 => c8 | 9 => c9 | 10 => c10 | 11 => c11 | _ => c12, fun i => match i with | 0 => f0 | 1 => f1 | 2 => f2 | 3 => f3 | 4 => f4 | 5 => f5 | 6 => f6 | 7 => f7 | 8 => f8 | 9 => f9 | 10 => f10 | 11 => f11 | _ => f12), (fun i => match i with | 0 => a0 | 1 => a1 | 2 => a2 | 3 => a3 | _ => a4), ⟨?_, ?_⟩, ?_, va_AO.of hao⟩
  · intro k q hq
    match k, hq with
    | 0, hq => cases hq; exact h0
    | 1, hq => cases hq; exact h1
    | 2, hq => cases hq; exact h2
    | 3, hq => cases hq; exact h3
    | 4, hq => cases hq; exact h4
    | 5, hq => cases hq; exact h5
    | 6, hq => cases hq; exact h6
    | 7, hq => cases hq; exact h7
    | 8, hq => cases hq; exact h8
    | 9, hq => cases hq; exact h9
    | 10, hq => cases hq; exact h10
    | 11, hq => cases hq; exact h11
    | 12, hq => cases hq; exact h12
    | k + 13, hq => simp [cls] at hq
  · intro k q hq
    match k, hq with
    | 0, hq => cases hq; exact ⟨fun n z => ⟨(fun k h => by cases h), k0, q0, m0, r0⟩, p0⟩
    | 1, hq => cases hq; exact ⟨fun n z => ⟨(fun k h => by cases h), k1, q1, m1, r1⟩, p1⟩
    | 2, hq => cases hq; exact ⟨fun n z => ⟨(fun k h => by cases h), k2, q2, m2, r2⟩, p2⟩
    | 3, hq => cases hq; exact ⟨fun n z => ⟨(fun k h => by cases h), k3, q3, m3, r3⟩, p3⟩
    | 4, hq => cases hq; exact ⟨fun n z => ⟨(fun k h => by cases h), k4, q4, m4, r4⟩, k4, m4, q4, r4, u4, p4⟩
    | k + 5, hq => simp [tys] at hq
  · intro w hw hn
    refine va_Nw.of ?_ (hts w (List.mem_append_right _ hw))
    cases w <;> first | rfl | (exfalso; simp [isNest] at hn)
set_option maxRecDepth 100000 in
theorem lw_O {p : Program} {s : State} {m : MethodId} {meth : Method} {c : Code} {b L : Nat} {xs : Nat → Int32} (C0 : lw_At p s m meth c b L xs) : gO s.heap.size s s.heap := by
  obtain ⟨hx, hb, hr, hml, hown, hts, hX, hbl, hlocks, hgv⟩ := C0
  have hs := flat_of_before _ hgv
  have hA : ∀ a : Nat, a < s.heap.size → ¬ (fun q => s.heap.size ≤ q) a := fun a h => Nat.not_le.mpr h
  have h108 : ∀ j : Nat, j < 108 → (Cond.eq (.elem (.field (Term.string "CookedLaw$Tokens" 25) "java/lang/String" "value" "[B") (.int (Int32.ofNat j))) (.int ((jsB.getD 0 []).getD j 0))).before #[Value.ref b] s = true := by
    intro j hj
    exact hs _ ((by decide +kernel : ∀ j : Nat, j < 108 → (Cond.eq (.elem (.field (Term.string "CookedLaw$Tokens" 25) "java/lang/String" "value" "[B") (.int (Int32.ofNat j))) (.int ((jsB.getD 0 []).getD j 0))) ∈ flatC (Jvm.Cond.and given_1 narrow_1)) j hj)
  obtain ⟨adK, adV, hS, he⟩ := vk_Sof (args := #[Value.ref b]) (s := s) (N := 1) (tm := fun _ => (Term.string "CookedLaw$Tokens" 25)) (len := [108]) (byt := jsB) (A := fun q => s.heap.size ≤ q) (fun i hi => by rw [show i = 0 by omega]; decide)
    (fun i hi => hs _ (by decide +kernel)) (fun i hi => hs _ (by decide +kernel)) (fun i hi => hs _ (by decide +kernel)) (fun i hi => by rw [show i = 0 by omega]; exact hs _ (by decide +kernel)) (fun i hi j hj => by
      obtain rfl : i = 0 := by omega
      exact h108 j hj) (fun i j hi hj h => absurd (show i = j by omega) h) hA
  refine ⟨adK, adV, hS, vk_R.of (A := #[Value.ref b]) (hts _ (by decide +kernel)) (he 0 (by decide)), va_Zof (args := #[Value.ref b]) (hts _ (by decide +kernel)) (hts _ (by decide +kernel)) (va_eqt (hs _ (by decide +kernel))) hA, va_Zqof (args := #[Value.ref b]) (hts _ (by decide +kernel)) (hts _ (by decide +kernel)) (hs _ (by decide +kernel)) hA⟩
theorem isLa_12 : isLa 12 := (by decide : (12 : Nat) ∈ lLa)
def M00 : gM := kM_Mod_init (kM_Main_init (fun _ _ => 0))
def L00 : gL := kL_Mod_init (kL_Main_init (fun _ _ => 0))
set_option maxHeartbeats 4000000 in
set_option maxRecDepth 100000 in
theorem lw_start {p : Program} {e : Env} {s : State} {m : MethodId} {below : List Frame} {meth : Method} {c : Code} (l : Launch) {b L : Nat} {xs : Nat → Int32} (hpure : H_law xs L FU 0 M00 L00 12 = some 1) (C0 : lw_At p s m meth c b L xs) : W p l e room_1 s m #[Value.ref b] below meth c s.heap [] 0 0 (lw_Z below #[Value.ref b] s) (entryFrame m ([Value.ref b] : List Value).toArray 4) := by
  obtain ⟨D, cA, hK⟩ := lw_K C0
  have hO := lw_O C0
  obtain ⟨hx, hb, hr, hml, hown, hts, hX, hbl, hlocks, hgv⟩ := C0
  have C : ZC p s m meth c b L xs D cA := ⟨hx, hb, hr, hml, hown, hts, hX, hbl, hlocks, hK, hO⟩
  have hl := lv_entry ([.ref b]) (n := 4) (Nat.le_of_ble_eq_true rfl)
  rw [lg_entry_eq]
  generalize (lg_sl ([.ref b]) ++ List.replicate (4 - (lg_sl ([.ref b])).length) Slot.unset).toArray = ls at hl ⊢
  have hl : lv_has ls 4 [(0, .ref b)] := hl
  have K : Zw l p e s m below meth c b L xs D cA 0 0 0 [(0, .ref b)] [] (fun _ _ => 0) (fun _ _ => 0) R00 := by
    refine z_new C (pc1 := 3) (ci := 0) (T := T_Main) (N := 12) (ty := ty_Main) d_law_0 rfl rfl (fun w h => (in_Main w h).1) tyk_Main (by decide) ck_Law0_7 cn_Main cz_Main sh_0 (fun _ => rfl) (fun _ => rfl) (Nat.le_of_ble_eq_true rfl) (Nat.le_of_ble_eq_true rfl) ?_
    refine z_dup C (pc1 := 4) d_law_3 rfl rfl ?_
    refine z_callI C (Y' := y_Main_init) (E' := (400, 9728, 401)) (pc1 := 7) (a := 0) (As := []) (rest := [.ref 0]) d_law_4 rfl mo_Law0_9 mi_Main_init rfl rfl ⟨(Nat.le_of_ble_eq_true rfl), (Nat.le_of_ble_eq_true rfl)⟩ rfl rfl (Nat.le_of_ble_eq_true rfl) ⟨(Nat.le_of_ble_eq_true rfl), (Nat.le_of_ble_eq_true rfl)⟩ rfl ?_
    refine t0_Main_init (fun c _ i => ⟨rfl, rfl, rfl⟩) (fun M' L' R' eM eL eR hF => ?_)
    show Zw l p e s m below meth c b L xs D cA 401 9740 7 [(0, .ref b)] [.ref (s.heap.size + 0)] M' L' R'
    refine z_astore_n C (pc1 := 8) (lv' := [(0, .ref b), (1, .ref (s.heap.size + 0))]) d_law_7 rfl rfl (by decide) [1, 0] rfl ?_
    refine z_new C (pc1 := 11) (ci := 12) (T := T_Mod) (N := 71) (ty := ty_Mod) d_law_8 rfl rfl (fun w h => (in_Mod w h).1) tyk_Mod (by decide) ck_Law0_10 cn_Mod cz_Mod sh_401 (fun i => (hF 401 (Nat.le_refl _) i).1) (fun i => (hF 401 (Nat.le_refl _) i).2.2) (Nat.le_of_ble_eq_true rfl) (Nat.le_of_ble_eq_true rfl) ?_
    refine z_dup C (pc1 := 12) d_law_11 rfl rfl ?_
    refine z_callI C (Y' := y_Mod_init) (E' := (45, 14101, 447)) (pc1 := 15) (a := 401) (As := []) (rest := [.ref 401]) d_law_12 rfl mo_Law0_12 mi_Mod_init rfl rfl ⟨(Nat.le_of_ble_eq_true rfl), (Nat.le_of_ble_eq_true rfl)⟩ rfl rfl (Nat.le_of_ble_eq_true rfl) ⟨(Nat.le_of_ble_eq_true rfl), (Nat.le_of_ble_eq_true rfl)⟩ rfl ?_
    refine x_Mod_init hF (by rw [eR]; exact R_start) ?_
    show Zw l p e s m below meth c b L xs D cA 447 23912 15 [(0, .ref b), (1, .ref (s.heap.size + 0))] [.ref (s.heap.size + 401)] _ _ (rf 12)
    refine z_astore_n C (pc1 := 16) (lv' := [(0, .ref b), (1, .ref (s.heap.size + 0)), (2, .ref (s.heap.size + 401))]) d_law_15 rfl rfl (by decide) [1, 2, 0] rfl ?_
    refine z_iconst C (pc1 := 17) (v := 0) d_law_16 rfl (by decide) ?_
    refine z_istore_n C (pc1 := 18) (lv' := [(0, .ref b), (1, .ref (s.heap.size + 0)), (2, .ref (s.heap.size + 401)), (3, .int 0)]) d_law_17 rfl rfl (by decide) [1, 2, 3, 0] rfl ?_
    subst eM eL
    exact h_law C FU 0 _ _ 12 isLa_12 hpure
  exact K s.heap [] ls (fun k q h => by simp [Wd] at h) va_S.rf hl
end MG6x3
