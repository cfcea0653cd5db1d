def yj_coder : gY := (⟨"java/lang/String", "coder", "()B"⟩, prog_17_method_152_code, 1, (some .byte), 0)
theorem dj_coder_0 : decode prog_17_method_152_code 0 = .ok (.getstatic 38, 3) := by decide +kernel
theorem dj_coder_3 : decode prog_17_method_152_code 3 = .ok (.ifCond .eq 10, 3) := by decide +kernel
theorem dj_coder_6 : decode prog_17_method_152_code 6 = .ok (.aload_n 0, 1) := by decide +kernel
theorem dj_coder_7 : decode prog_17_method_152_code 7 = .ok (.getfield 15, 3) := by decide +kernel
theorem dj_coder_10 : decode prog_17_method_152_code 10 = .ok (.goto 4, 3) := by decide +kernel
theorem dj_coder_13 : decode prog_17_method_152_code 13 = .ok (.iconst 1, 1) := by decide +kernel
theorem dj_coder_14 : decode prog_17_method_152_code 14 = .ok (.ireturn, 1) := by decide +kernel
set_option maxRecDepth 100000 in
theorem kj_coder : Cond.code yj_coder.1 yj_coder.2.1 yj_coder.2.2.1 yj_coder.2.2.2.1 ∈ gtb ∧ Cond.initialized yj_coder.1.cls ∈ gtb ∧ yj_coder.1.cls ≠ "java/lang/invoke/MethodHandle" ∧ yj_coder.1.cls ≠ "java/lang/invoke/VarHandle" ∧ (parseMethodDescriptor yj_coder.1.desc).map (fun d => d.parameters.length) = some 0 := ⟨(gk_1 (List.mem_of_getElem? (i := 64) rfl) rfl), (gk_1 (List.mem_of_getElem? (i := 5) rfl) rfl), by decide +kernel, by decide +kernel, by decide +kernel⟩
set_option maxRecDepth 100000 in
theorem ij_coder : Cond.instanceMethod yj_coder.1 ∈ gtb := (gk_1 (List.mem_of_getElem? (i := 62) rfl) rfl)
set_option maxRecDepth 100000 in
theorem vj_coder : Cond.selects yj_coder.1.cls yj_coder.1 yj_coder.1 ∈ gtb := (gk_1 (List.mem_of_getElem? (i := 63) rfl) rfl)
def yj_isLatin1 : gY := (⟨"java/lang/String", "isLatin1", "()Z"⟩, prog_17_method_154_code, 1, (some .boolean), 0)
theorem dj_isLatin1_0 : decode prog_17_method_154_code 0 = .ok (.getstatic 38, 3) := by decide +kernel
theorem dj_isLatin1_3 : decode prog_17_method_154_code 3 = .ok (.ifCond .eq 14, 3) := by decide +kernel
theorem dj_isLatin1_6 : decode prog_17_method_154_code 6 = .ok (.aload_n 0, 1) := by decide +kernel
theorem dj_isLatin1_7 : decode prog_17_method_154_code 7 = .ok (.getfield 15, 3) := by decide +kernel
theorem dj_isLatin1_10 : decode prog_17_method_154_code 10 = .ok (.ifCond .ne 7, 3) := by decide +kernel
theorem dj_isLatin1_13 : decode prog_17_method_154_code 13 = .ok (.iconst 1, 1) := by decide +kernel
theorem dj_isLatin1_14 : decode prog_17_method_154_code 14 = .ok (.goto 4, 3) := by decide +kernel
theorem dj_isLatin1_17 : decode prog_17_method_154_code 17 = .ok (.iconst 0, 1) := by decide +kernel
theorem dj_isLatin1_18 : decode prog_17_method_154_code 18 = .ok (.ireturn, 1) := by decide +kernel
set_option maxRecDepth 100000 in
theorem kj_isLatin1 : Cond.code yj_isLatin1.1 yj_isLatin1.2.1 yj_isLatin1.2.2.1 yj_isLatin1.2.2.2.1 ∈ gtb ∧ Cond.initialized yj_isLatin1.1.cls ∈ gtb ∧ yj_isLatin1.1.cls ≠ "java/lang/invoke/MethodHandle" ∧ yj_isLatin1.1.cls ≠ "java/lang/invoke/VarHandle" ∧ (parseMethodDescriptor yj_isLatin1.1.desc).map (fun d => d.parameters.length) = some 0 := ⟨(gk_1 (List.mem_of_getElem? (i := 74) rfl) rfl), (gk_1 (List.mem_of_getElem? (i := 5) rfl) rfl), by decide +kernel, by decide +kernel, by decide +kernel⟩
set_option maxRecDepth 100000 in
theorem ij_isLatin1 : Cond.instanceMethod yj_isLatin1.1 ∈ gtb := (gk_1 (List.mem_of_getElem? (i := 72) rfl) rfl)
set_option maxRecDepth 100000 in
theorem vj_isLatin1 : Cond.selects yj_isLatin1.1.cls yj_isLatin1.1 yj_isLatin1.1 ∈ gtb := (gk_1 (List.mem_of_getElem? (i := 73) rfl) rfl)
def yj_length : gY := (⟨"java/lang/String", "length", "()I"⟩, prog_17_method_54_code, 1, (some .int), 1)
theorem dj_length_0 : decode prog_17_method_54_code 0 = .ok (.aload_n 0, 1) := by decide +kernel
theorem dj_length_1 : decode prog_17_method_54_code 1 = .ok (.getfield 9, 3) := by decide +kernel
theorem dj_length_4 : decode prog_17_method_54_code 4 = .ok (.arraylength, 1) := by decide +kernel
theorem dj_length_5 : decode prog_17_method_54_code 5 = .ok (.aload_n 0, 1) := by decide +kernel
theorem dj_length_6 : decode prog_17_method_54_code 6 = .ok (.invokevirtual 335, 3) := by decide +kernel
theorem dj_length_9 : decode prog_17_method_54_code 9 = .ok (.ishr, 1) := by decide +kernel
theorem dj_length_10 : decode prog_17_method_54_code 10 = .ok (.ireturn, 1) := by decide +kernel
set_option maxRecDepth 100000 in
theorem kj_length : Cond.code yj_length.1 yj_length.2.1 yj_length.2.2.1 yj_length.2.2.2.1 ∈ gtb ∧ Cond.initialized yj_length.1.cls ∈ gtb ∧ yj_length.1.cls ≠ "java/lang/invoke/MethodHandle" ∧ yj_length.1.cls ≠ "java/lang/invoke/VarHandle" ∧ (parseMethodDescriptor yj_length.1.desc).map (fun d => d.parameters.length) = some 0 := ⟨(gk_1 (List.mem_of_getElem? (i := 60) rfl) rfl), (gk_1 (List.mem_of_getElem? (i := 5) rfl) rfl), by decide +kernel, by decide +kernel, by decide +kernel⟩
set_option maxRecDepth 100000 in
theorem ij_length : Cond.instanceMethod yj_length.1 ∈ gtb := (gk_1 (List.mem_of_getElem? (i := 58) rfl) rfl)
set_option maxRecDepth 100000 in
theorem vj_length : Cond.selects yj_length.1.cls yj_length.1 yj_length.1 ∈ gtb := (gk_1 (List.mem_of_getElem? (i := 59) rfl) rfl)
def yj_pci : gY := (⟨"jdk/internal/util/Preconditions", "checkIndex", "(IILjava/util/function/BiFunction;)I"⟩, prog_20_method_11_code, 3, (some .int), 0)
theorem dj_pci_0 : decode prog_20_method_11_code 0 = .ok (.iload_n 0, 1) := by decide +kernel
theorem dj_pci_1 : decode prog_20_method_11_code 1 = .ok (.ifCond .lt 8, 3) := by decide +kernel
theorem dj_pci_4 : decode prog_20_method_11_code 4 = .ok (.iload_n 0, 1) := by decide +kernel
theorem dj_pci_5 : decode prog_20_method_11_code 5 = .ok (.iload_n 1, 1) := by decide +kernel
theorem dj_pci_6 : decode prog_20_method_11_code 6 = .ok (.if_icmp .lt 10, 3) := by decide +kernel
theorem dj_pci_9 : decode prog_20_method_11_code 9 = .ok (.aload_n 2, 1) := by decide +kernel
theorem dj_pci_10 : decode prog_20_method_11_code 10 = .ok (.iload_n 0, 1) := by decide +kernel
theorem dj_pci_11 : decode prog_20_method_11_code 11 = .ok (.iload_n 1, 1) := by decide +kernel
theorem dj_pci_12 : decode prog_20_method_11_code 12 = .ok (.invokestatic 95, 3) := by decide +kernel
theorem dj_pci_15 : decode prog_20_method_11_code 15 = .ok (.athrow, 1) := by decide +kernel
theorem dj_pci_16 : decode prog_20_method_11_code 16 = .ok (.iload_n 0, 1) := by decide +kernel
theorem dj_pci_17 : decode prog_20_method_11_code 17 = .ok (.ireturn, 1) := by decide +kernel
set_option maxRecDepth 100000 in
theorem kj_pci : Cond.code yj_pci.1 yj_pci.2.1 yj_pci.2.2.1 yj_pci.2.2.2.1 ∈ gtb ∧ Cond.initialized yj_pci.1.cls ∈ gtb ∧ yj_pci.1.cls ≠ "java/lang/invoke/MethodHandle" ∧ yj_pci.1.cls ≠ "java/lang/invoke/VarHandle" ∧ (parseMethodDescriptor yj_pci.1.desc).map (fun d => d.parameters.length) = some 3 := ⟨(gk_1 (List.mem_of_getElem? (i := 85) rfl) rfl), (gk_1 (List.mem_of_getElem? (i := 7) rfl) rfl), by decide +kernel, by decide +kernel, by decide +kernel⟩
set_option maxRecDepth 100000 in
theorem sj_pci : Cond.static yj_pci.1 ∈ gtb := (gk_1 (List.mem_of_getElem? (i := 84) rfl) rfl)
def yj_sci : gY := (⟨"java/lang/String", "checkIndex", "(II)V"⟩, prog_17_method_155_code, 2, none, 1)
theorem dj_sci_0 : decode prog_17_method_155_code 0 = .ok (.iload_n 0, 1) := by decide +kernel
theorem dj_sci_1 : decode prog_17_method_155_code 1 = .ok (.iload_n 1, 1) := by decide +kernel
theorem dj_sci_2 : decode prog_17_method_155_code 2 = .ok (.getstatic 1053, 3) := by decide +kernel
theorem dj_sci_5 : decode prog_17_method_155_code 5 = .ok (.invokestatic 1059, 3) := by decide +kernel
theorem dj_sci_8 : decode prog_17_method_155_code 8 = .ok (.pop, 1) := by decide +kernel
theorem dj_sci_9 : decode prog_17_method_155_code 9 = .ok (.return_, 1) := by decide +kernel
set_option maxRecDepth 100000 in
theorem kj_sci : Cond.code yj_sci.1 yj_sci.2.1 yj_sci.2.2.1 yj_sci.2.2.2.1 ∈ gtb ∧ Cond.initialized yj_sci.1.cls ∈ gtb ∧ yj_sci.1.cls ≠ "java/lang/invoke/MethodHandle" ∧ yj_sci.1.cls ≠ "java/lang/invoke/VarHandle" ∧ (parseMethodDescriptor yj_sci.1.desc).map (fun d => d.parameters.length) = some 2 := ⟨(gk_1 (List.mem_of_getElem? (i := 80) rfl) rfl), (gk_1 (List.mem_of_getElem? (i := 5) rfl) rfl), by decide +kernel, by decide +kernel, by decide +kernel⟩
set_option maxRecDepth 100000 in
theorem sj_sci : Cond.static yj_sci.1 ∈ gtb := (gk_1 (List.mem_of_getElem? (i := 79) rfl) rfl)
def yj_lca : gY := (⟨"java/lang/StringLatin1", "charAt", "([BI)C"⟩, prog_18_method_2_code, 2, (some .char), 2)
theorem dj_lca_0 : decode prog_18_method_2_code 0 = .ok (.iload_n 1, 1) := by decide +kernel
theorem dj_lca_1 : decode prog_18_method_2_code 1 = .ok (.aload_n 0, 1) := by decide +kernel
theorem dj_lca_2 : decode prog_18_method_2_code 2 = .ok (.arraylength, 1) := by decide +kernel
theorem dj_lca_3 : decode prog_18_method_2_code 3 = .ok (.invokestatic 9, 3) := by decide +kernel
theorem dj_lca_6 : decode prog_18_method_2_code 6 = .ok (.aload_n 0, 1) := by decide +kernel
theorem dj_lca_7 : decode prog_18_method_2_code 7 = .ok (.iload_n 1, 1) := by decide +kernel
theorem dj_lca_8 : decode prog_18_method_2_code 8 = .ok (.baload, 1) := by decide +kernel
theorem dj_lca_9 : decode prog_18_method_2_code 9 = .ok (.sipush 255, 3) := by decide +kernel
theorem dj_lca_12 : decode prog_18_method_2_code 12 = .ok (.iand, 1) := by decide +kernel
theorem dj_lca_13 : decode prog_18_method_2_code 13 = .ok (.i2c, 1) := by decide +kernel
theorem dj_lca_14 : decode prog_18_method_2_code 14 = .ok (.ireturn, 1) := by decide +kernel
set_option maxRecDepth 100000 in
theorem kj_lca : Cond.code yj_lca.1 yj_lca.2.1 yj_lca.2.2.1 yj_lca.2.2.2.1 ∈ gtb ∧ Cond.initialized yj_lca.1.cls ∈ gtb ∧ yj_lca.1.cls ≠ "java/lang/invoke/MethodHandle" ∧ yj_lca.1.cls ≠ "java/lang/invoke/VarHandle" ∧ (parseMethodDescriptor yj_lca.1.desc).map (fun d => d.parameters.length) = some 2 := ⟨(gk_1 (List.mem_of_getElem? (i := 77) rfl) rfl), (gk_1 (List.mem_of_getElem? (i := 6) rfl) rfl), by decide +kernel, by decide +kernel, by decide +kernel⟩
set_option maxRecDepth 100000 in
theorem sj_lca : Cond.static yj_lca.1 ∈ gtb := (gk_1 (List.mem_of_getElem? (i := 76) rfl) rfl)
def yj_charAt : gY := (⟨"java/lang/String", "charAt", "(I)C"⟩, prog_17_method_56_code, 2, (some .char), 3)
theorem dj_charAt_0 : decode prog_17_method_56_code 0 = .ok (.aload_n 0, 1) := by decide +kernel
theorem dj_charAt_1 : decode prog_17_method_56_code 1 = .ok (.invokevirtual 492, 3) := by decide +kernel
theorem dj_charAt_4 : decode prog_17_method_56_code 4 = .ok (.ifCond .eq 12, 3) := by decide +kernel
theorem dj_charAt_7 : decode prog_17_method_56_code 7 = .ok (.aload_n 0, 1) := by decide +kernel
theorem dj_charAt_8 : decode prog_17_method_56_code 8 = .ok (.getfield 9, 3) := by decide +kernel
theorem dj_charAt_11 : decode prog_17_method_56_code 11 = .ok (.iload_n 1, 1) := by decide +kernel
theorem dj_charAt_12 : decode prog_17_method_56_code 12 = .ok (.invokestatic 495, 3) := by decide +kernel
theorem dj_charAt_15 : decode prog_17_method_56_code 15 = .ok (.ireturn, 1) := by decide +kernel
theorem dj_charAt_16 : decode prog_17_method_56_code 16 = .ok (.aload_n 0, 1) := by decide +kernel
theorem dj_charAt_17 : decode prog_17_method_56_code 17 = .ok (.getfield 9, 3) := by decide +kernel
theorem dj_charAt_20 : decode prog_17_method_56_code 20 = .ok (.iload_n 1, 1) := by decide +kernel
theorem dj_charAt_21 : decode prog_17_method_56_code 21 = .ok (.invokestatic 498, 3) := by decide +kernel
theorem dj_charAt_24 : decode prog_17_method_56_code 24 = .ok (.ireturn, 1) := by decide +kernel
set_option maxRecDepth 100000 in
theorem kj_charAt : Cond.code yj_charAt.1 yj_charAt.2.1 yj_charAt.2.2.1 yj_charAt.2.2.2.1 ∈ gtb ∧ Cond.initialized yj_charAt.1.cls ∈ gtb ∧ yj_charAt.1.cls ≠ "java/lang/invoke/MethodHandle" ∧ yj_charAt.1.cls ≠ "java/lang/invoke/VarHandle" ∧ (parseMethodDescriptor yj_charAt.1.desc).map (fun d => d.parameters.length) = some 1 := ⟨(gk_1 (List.mem_of_getElem? (i := 70) rfl) rfl), (gk_1 (List.mem_of_getElem? (i := 5) rfl) rfl), by decide +kernel, by decide +kernel, by decide +kernel⟩
set_option maxRecDepth 100000 in
theorem ij_charAt : Cond.instanceMethod yj_charAt.1 ∈ gtb := (gk_1 (List.mem_of_getElem? (i := 68) rfl) rfl)
set_option maxRecDepth 100000 in
theorem vj_charAt : Cond.selects yj_charAt.1.cls yj_charAt.1 yj_charAt.1 ∈ gtb := (gk_1 (List.mem_of_getElem? (i := 69) rfl) rfl)
set_option maxRecDepth 100000 in
theorem lj_coder : Cond.methodLink "java/lang/String" 335 yj_coder.1 ∈ gtb := (gk_1 (List.mem_of_getElem? (i := 61) rfl) rfl)
set_option maxRecDepth 100000 in
theorem lj_isLatin1 : Cond.methodLink "java/lang/String" 492 yj_isLatin1.1 ∈ gtb := (gk_1 (List.mem_of_getElem? (i := 71) rfl) rfl)
set_option maxRecDepth 100000 in
theorem lj_lca : Cond.methodLink "java/lang/String" 495 yj_lca.1 ∈ gtb := (gk_1 (List.mem_of_getElem? (i := 75) rfl) rfl)
set_option maxRecDepth 100000 in
theorem lj_pci : Cond.methodLink "java/lang/String" 1059 yj_pci.1 ∈ gtb := (gk_1 (List.mem_of_getElem? (i := 83) rfl) rfl)
set_option maxRecDepth 100000 in
theorem lj_sci : Cond.methodLink "java/lang/StringLatin1" 9 yj_sci.1 ∈ gtb := (gk_1 (List.mem_of_getElem? (i := 78) rfl) rfl)
set_option maxRecDepth 100000 in
theorem lj_length : Cond.methodLink "CookedLaw$Tokens" 27 yj_length.1 ∈ gtb := (gk_1 (List.mem_of_getElem? (i := 57) rfl) rfl)
set_option maxRecDepth 100000 in
theorem lj_charAt : Cond.methodLink "CookedLaw$Tokens" 33 yj_charAt.1 ∈ gtb := (gk_1 (List.mem_of_getElem? (i := 67) rfl) rfl)
set_option maxRecDepth 100000 in
theorem fj_38 : Cond.fieldLink "java/lang/String" 38 "java/lang/String" "COMPACT_STRINGS" "Z" ∈ gtb := (gk_1 (List.mem_of_getElem? (i := 65) rfl) rfl)
set_option maxRecDepth 100000 in
theorem fj_1053 : Cond.fieldLink "java/lang/String" 1053 "jdk/internal/util/Preconditions" "SIOOBE_FORMATTER" "Ljava/util/function/BiFunction;" ∈ gtb := (gk_1 (List.mem_of_getElem? (i := 81) rfl) rfl)
set_option maxRecDepth 100000 in
theorem fj_9 : Cond.fieldLink "java/lang/String" 9 "java/lang/String" "value" "[B" ∈ gtb := (gk_8 (List.mem_of_getElem? (i := 80) rfl) rfl)
set_option maxRecDepth 100000 in
theorem fj_15 : Cond.fieldLink "java/lang/String" 15 "java/lang/String" "coder" "B" ∈ gtb := (gk_8 (List.mem_of_getElem? (i := 81) rfl) rfl)

def jO (b : Nat) (adK adV : Nat → Nat) (U : State) (H : Heap) : Prop := vk_S 1 [108] jsB adK adV (fun q => b ≤ q) U H ∧ va_Z "java/lang/String" "COMPACT_STRINGS" "Z" (.int 1) (fun q => b ≤ q) U H ∧ va_Zq "jdk/internal/util/Preconditions" "SIOOBE_FORMATTER" "Ljava/util/function/BiFunction;" (fun q => b ≤ q) U H
def jP (b : Nat) (adK adV : Nat → Nat) (av : List Value) : Array Value → State → Prop := fun v U => v = av.toArray ∧ jO b adK adV U U.heap
theorem jO.alike {b : Nat} {adK adV : Nat → Nat} {u U : State} {H : Heap} (hv : u.vm.Alike U.vm) (h : jO b adK adV u H) : jO b adK adV U H := ⟨h.1.moved hv, h.2.1.moved hv, h.2.2.moved hv⟩
theorem jO.kept {b : Nat} {adK adV : Nat → Nat} {U : State} {H H1 : Heap} (g : jO b adK adV U H) (hq : ∀ a : Nat, a < H.size → ¬ b ≤ a → H1[a]? = H[a]?) : jO b adK adV U H1 := ⟨g.1.kept hq, g.2.1.kept hq, g.2.2.kept hq⟩
theorem jP_blind {b : Nat} {adK adV : Nat → Nat} {av : List Value} : FrameBlind (jP b adK adV av) := fun a U g mk q => ⟨q.1, jO.alike (u := U) (U := U.calling g mk a) (Vm.Alike.refl U.vm) q.2⟩
def QcV : Array Value → State → Outcome → State → Prop := fun _ st o t => o = .returned none ∧ t.heap = st.heap
theorem W.callJV {p : Program} {l : Launch} {e : Env} {R : Room} {s : State} {m : MethodId} {args : Array Value} {below : List Frame} {meth : Method} {c : Code} {H : Heap} {locs : List Loc} {cells slots : Nat} {Q : State → Prop} {g : JFrame} {rest : List Value} {a : Array Value} (hr : CallRun p l e R s m args below meth c H locs cells slots 0 0 g rest (QcV a) (fun _ => False)) (kk : W p l e R s m args below meth c H locs cells slots Q { g with pc := g.pc + 3, stack := rest }) : W p l e R s m args below meth c H locs cells slots Q g := by
  intro T hT X
  obtain ⟨v, st₀, t, T', L, h0, X', hL, e1, ⟨hv, hh⟩, st⟩ := hr T hT X
  cases hv
  obtain ⟨t2, a1, b1⟩ := kk T' (by rw [e1, hh, h0]) (Stand.forget X' (fun q h => (hL q h).elim))
  exact ⟨t2, st t2 a1, b1⟩
section STRS
variable (l : Launch) (b : Nat) (adK adV : Nat → Nat)
theorem jm_coder : Met l yj_coder.1 (gW yj_coder) (rmd 0 0 0) (jP b adK adV [.ref (adK 0)]) (QcRead 0) 0 0 (fun _ => False) := by
  refine Met.ofW (cc := yj_coder.2.1) (maxL := 1) (ret := some .byte) (by decide) rfl ?_
  intro p e s m as below meth c s₁ B hml hv
  obtain ⟨rfl, hO⟩ := hv
  have hts := atoms_spec (ws := gW yj_coder) B.pre
  have hl := lv_entry [.ref (adK 0)] (n := 1) (Nat.le_of_ble_eq_true rfl)
  rw [lg_entry_eq]
  have hown : s.vm.findClass "java/lang/String" = some m.cls := findClass_of_methodNamed B.named
  have hS : va_S (fun q => b ≤ q) s.heap s.heap [] := va_S.rf
  refine va_gets B.exec B.bytes hO.2.1 hS hown (hts _ (List.mem_cons_of_mem _ fj_38)) (fun _ h => h) dj_coder_0 ?_
  refine lv_if_eq (tgt := 13) B.exec B.bytes dj_coder_3 (by decide) (fun h => absurd h (by decide)) (fun h => ?_)
  refine lv_aload_n B.exec B.bytes dj_coder_6 rfl (lv_at hl 0 rfl) ?_
  refine vk_getf B.exec B.bytes (hO.1.1 0 (by decide)).2.1 hS hown (hts _ (List.mem_cons_of_mem _ fj_15)) (fun _ h => h) dj_coder_7 ?_
  refine lv_goto (tgt := 14) B.exec B.bytes dj_coder_10 (by decide) ?_
  exact W.zret (ty := .byte) B.exec B.bytes B.returns rfl (fun t ht hW => ⟨rfl, ht⟩) (fun q hq => by cases hq) dj_coder_14 (hlocks := B.notSynchronized)
theorem jm_isLatin1 : Met l yj_isLatin1.1 (gW yj_isLatin1) (rmd 0 0 0) (jP b adK adV [.ref (adK 0)]) (QcRead 1) 0 0 (fun _ => False) := by
  refine Met.ofW (cc := yj_isLatin1.2.1) (maxL := 1) (ret := some .boolean) (by decide) rfl ?_
  intro p e s m as below meth c s₁ B hml hv
  obtain ⟨rfl, hO⟩ := hv
  have hts := atoms_spec (ws := gW yj_isLatin1) B.pre
  have hl := lv_entry [.ref (adK 0)] (n := 1) (Nat.le_of_ble_eq_true rfl)
  rw [lg_entry_eq]
  have hown : s.vm.findClass "java/lang/String" = some m.cls := findClass_of_methodNamed B.named
  have hS : va_S (fun q => b ≤ q) s.heap s.heap [] := va_S.rf
  refine va_gets B.exec B.bytes hO.2.1 hS hown (hts _ (List.mem_cons_of_mem _ fj_38)) (fun _ h => h) dj_isLatin1_0 ?_
  refine lv_if_eq (tgt := 17) B.exec B.bytes dj_isLatin1_3 (by decide) (fun h => absurd h (by decide)) (fun h => ?_)
  refine lv_aload_n B.exec B.bytes dj_isLatin1_6 rfl (lv_at hl 0 rfl) ?_
  refine vk_getf B.exec B.bytes (hO.1.1 0 (by decide)).2.1 hS hown (hts _ (List.mem_cons_of_mem _ fj_15)) (fun _ h => h) dj_isLatin1_7 ?_
  refine lv_if_ne (tgt := 17) B.exec B.bytes dj_isLatin1_10 (by decide) (fun h => absurd rfl h) (fun h => ?_)
  refine lv_iconst (v := 1) B.exec B.bytes dj_isLatin1_13 (by decide) ?_
  refine lv_goto (tgt := 18) B.exec B.bytes dj_isLatin1_14 (by decide) ?_
  exact W.zret (ty := .boolean) B.exec B.bytes B.returns rfl (fun t ht hW => ⟨rfl, ht⟩) (fun q hq => by cases hq) dj_isLatin1_18 (hlocks := B.notSynchronized)
theorem jm_length : Met l yj_length.1 (gW yj_length) (rmd 1 0 0) (jP b adK adV [.ref (adK 0)]) (QcRead 108) 0 0 (fun _ => False) := by
  refine Met.ofW (cc := yj_length.2.1) (maxL := 1) (ret := some .int) (by decide) rfl ?_
  intro p e s m as below meth c s₁ B hml hv
  obtain ⟨rfl, hO⟩ := hv
  have hts := atoms_spec (ws := gW yj_length) B.pre
  have hl := lv_entry [.ref (adK 0)] (n := 1) (Nat.le_of_ble_eq_true rfl)
  rw [lg_entry_eq]
  have hown : s.vm.findClass "java/lang/String" = some m.cls := findClass_of_methodNamed B.named
  have hS : va_S (fun q => b ≤ q) s.heap s.heap [] := va_S.rf
  refine lv_aload_n B.exec B.bytes dj_length_0 rfl (lv_at hl 0 rfl) ?_
  refine vk_getf B.exec B.bytes (hO.1.1 0 (by decide)).2.2.1 hS hown (hts _ (List.mem_cons_of_mem _ fj_9)) (fun _ h => h) dj_length_1 ?_
  refine va_tlen (v := 108) B.exec B.bytes (hO.1.1 0 (by decide)).2.2.2 hS (by decide) dj_length_4 ?_
  refine lv_aload_n B.exec B.bytes dj_length_5 rfl (lv_at hl 0 rfl) ?_
  refine W.callR (W.runV (C := "java/lang/String") (Ts := gW yj_length) (As := []) (rest := [.int 108]) ⟨B.exec, B.bytes, hml, hown, hts⟩ (jm_coder l b adK adV) ⟨callB_of 0 hts (gw_good kj_coder.1) rfl rfl rfl (hts _ (List.mem_cons_of_mem _ kj_coder.2.1)) (hts _ (List.mem_cons_of_mem _ lj_coder)) kj_coder.2.2 ⟨Nat.le_of_ble_eq_true rfl, Nat.le_of_ble_eq_true rfl⟩, hts _ (List.mem_cons_of_mem _ ij_coder), hts _ (List.mem_cons_of_mem _ vj_coder)⟩
    ⟨jP_blind, vk_recv hO.1 (by decide) hS, fun U hU hW => ⟨rfl, by rw [hU]; exact jO.alike hW.alike hO⟩⟩ rfl rfl hl.1 rfl (Nat.le_of_ble_eq_true rfl) dj_length_6 ⟨Nat.le_refl 0, Nat.le_refl 0⟩) ?_
  refine lv_ishr B.exec B.bytes dj_length_9 ?_
  exact W.iret B.exec B.bytes B.returns (fun t ht hW => ⟨by rfl, ht⟩) (fun q hq => by cases hq) dj_length_10 (hlocks := B.notSynchronized)
theorem jm_pci (i n : Int32) (f : Value) (hf : f = .null ∨ ∃ t, f = .ref t) (h0 : ¬ i < 0) (h1 : i < n) : Met l yj_pci.1 (gW yj_pci) (rmd 0 0 0) (jP b adK adV [.int i, .int n, f]) (QcRead i) 0 0 (fun _ => False) := by
  refine Met.ofW (cc := yj_pci.2.1) (maxL := 3) (ret := some .int) (by decide) rfl ?_
  intro p e s m as below meth c s₁ B hml hv
  obtain ⟨rfl, hO⟩ := hv
  have hl := lv_entry [.int i, .int n, f] (n := 3) (by rcases hf with rfl | ⟨t, rfl⟩ <;> exact Nat.le_of_ble_eq_true rfl)
  rw [lg_entry_eq]
  have hl : lv_has _ 3 [(0, .int i), (1, .int n), (2, f)] := hl
  refine lv_iload_n B.exec B.bytes dj_pci_0 rfl (lv_at hl 0 rfl) ?_
  refine lv_if_lt (tgt := 9) B.exec B.bytes dj_pci_1 (by decide) (fun h => absurd h h0) (fun h => ?_)
  refine lv_iload_n B.exec B.bytes dj_pci_4 rfl (lv_at hl 0 rfl) ?_
  refine lv_iload_n B.exec B.bytes dj_pci_5 rfl (lv_at hl 1 rfl) ?_
  refine lv_icmp_lt (tgt := 16) B.exec B.bytes dj_pci_6 (by decide) (fun h => ?_) (fun h => absurd h1 h)
  refine lv_iload_n B.exec B.bytes dj_pci_16 rfl (lv_at hl 0 rfl) ?_
  exact W.iret B.exec B.bytes B.returns (fun t ht hW => ⟨rfl, ht⟩) (fun q hq => by cases hq) dj_pci_17 (hlocks := B.notSynchronized)
theorem jm_sci (i n : Int32) (h0 : ¬ i < 0) (h1 : i < n) : Met l yj_sci.1 (gW yj_sci) (rmd 1 0 0) (jP b adK adV [.int i, .int n]) QcV 0 0 (fun _ => False) := by
  refine Met.ofW (cc := yj_sci.2.1) (maxL := 2) (ret := none) (by decide) rfl ?_
  intro p e s m as below meth c s₁ B hml hv
  obtain ⟨rfl, hO⟩ := hv
  have hts := atoms_spec (ws := gW yj_sci) B.pre
  have hl := lv_entry [.int i, .int n] (n := 2) (Nat.le_of_ble_eq_true rfl)
  rw [lg_entry_eq]
  have hl : lv_has _ 2 [(0, .int i), (1, .int n)] := hl
  have hown : s.vm.findClass "java/lang/String" = some m.cls := findClass_of_methodNamed B.named
  have hS : va_S (fun q => b ≤ q) s.heap s.heap [] := va_S.rf
  obtain ⟨f, hf, hz⟩ : ∃ f : Value, (f = .null ∨ ∃ t, f = .ref t) ∧ va_Z "jdk/internal/util/Preconditions" "SIOOBE_FORMATTER" "Ljava/util/function/BiFunction;" f (fun q => b ≤ q) s s.heap := by
    rcases hO.2.2 with h | ⟨t, h⟩
    · exact ⟨_, Or.inl rfl, h⟩
    · exact ⟨_, Or.inr ⟨t, rfl⟩, h⟩
  refine lv_iload_n B.exec B.bytes dj_sci_0 rfl (lv_at hl 0 rfl) ?_
  refine lv_iload_n B.exec B.bytes dj_sci_1 rfl (lv_at hl 1 rfl) ?_
  refine va_gets B.exec B.bytes hz hS hown (hts _ (List.mem_cons_of_mem _ fj_1053)) (fun _ h => h) dj_sci_2 ?_
  refine W.callR (r := i) (W.runS (Ts := gW yj_sci) (As := [.int i, .int n, f]) (rest := []) ⟨B.exec, B.bytes, hml, hown, hts⟩ (jm_pci l b adK adV i n f hf h0 h1) ⟨callB_of 3 hts (gw_good kj_pci.1) rfl rfl rfl (hts _ (List.mem_cons_of_mem _ kj_pci.2.1)) (hts _ (List.mem_cons_of_mem _ lj_pci)) kj_pci.2.2 ⟨Nat.le_of_ble_eq_true rfl, Nat.le_of_ble_eq_true rfl⟩, hts _ (List.mem_cons_of_mem _ sj_pci)⟩
    ⟨jP_blind, fun U hU hW => ⟨rfl, by rw [hU]; exact jO.alike hW.alike hO⟩⟩ rfl rfl hl.1 rfl (Nat.le_of_ble_eq_true rfl) dj_sci_5 ⟨Nat.le_refl 0, Nat.le_refl 0⟩) ?_
  refine lv_pop B.exec B.bytes dj_sci_8 rfl ?_
  exact W.vret B.exec B.bytes B.returns (fun t ht hW => ⟨rfl, ht⟩) (fun q hq => by cases hq) dj_sci_9 (hlocks := B.notSynchronized)
def jch (k : Nat) : Int32 := ((((jsB.getD 0 []).getD k 0) &&& 255).toUInt32 % 65536).toInt32
theorem jch_nar : ∀ k, k < 108 → narrow .char (.int (jch k)) = .int (jch k) := by decide +kernel
theorem jm_lca (i : Int32) (h0 : ¬ i < 0) (h1 : i < 108) : Met l yj_lca.1 (gW yj_lca) (rmd 2 0 0) (jP b adK adV [.ref (adV 0), .int i]) (QcRead (jch i.toNatClampNeg)) 0 0 (fun _ => False) := by
  refine Met.ofW (cc := yj_lca.2.1) (maxL := 2) (ret := some .char) (by decide) rfl ?_
  intro p e s m as below meth c s₁ B hml hv
  obtain ⟨rfl, hO⟩ := hv
  have hts := atoms_spec (ws := gW yj_lca) B.pre
  have hl := lv_entry [.ref (adV 0), .int i] (n := 2) (Nat.le_of_ble_eq_true rfl)
  rw [lg_entry_eq]
  have hl : lv_has _ 2 [(0, .ref (adV 0)), (1, .int i)] := hl
  have hown : s.vm.findClass "java/lang/StringLatin1" = some m.cls := findClass_of_methodNamed B.named
  have hS : va_S (fun q => b ≤ q) s.heap s.heap [] := va_S.rf
  have hin : vp_in i 108 := vin_c h0 (by have := i_lt.mp h1; have e : (108 : Int32).toInt = 108 := by decide
                                         omega)
  have hk : i.toNatClampNeg < 108 := Nat.not_le.mp fun q => hin (Or.inr q)
  refine lv_iload_n B.exec B.bytes dj_lca_0 rfl (lv_at hl 1 rfl) ?_
  refine lv_aload_n B.exec B.bytes dj_lca_1 rfl (lv_at hl 0 rfl) ?_
  refine va_tlen (v := 108) B.exec B.bytes (hO.1.1 0 (by decide)).2.2.2 hS (by decide) dj_lca_2 ?_
  refine W.callJV (W.runS (Ts := gW yj_lca) (As := [.int i, .int 108]) (rest := []) ⟨B.exec, B.bytes, hml, hown, hts⟩ (jm_sci l b adK adV i 108 h0 h1) ⟨callB_of 2 hts (gw_good kj_sci.1) rfl rfl rfl (hts _ (List.mem_cons_of_mem _ kj_sci.2.1)) (hts _ (List.mem_cons_of_mem _ lj_sci)) kj_sci.2.2 ⟨Nat.le_of_ble_eq_true rfl, Nat.le_of_ble_eq_true rfl⟩, hts _ (List.mem_cons_of_mem _ sj_sci)⟩
    ⟨jP_blind, fun U hU hW => ⟨rfl, by rw [hU]; exact jO.alike hW.alike hO⟩⟩ rfl rfl hl.1 rfl (Nat.le_of_ble_eq_true rfl) dj_lca_3 ⟨Nat.le_refl 0, Nat.le_refl 0⟩) ?_
  refine lv_aload_n B.exec B.bytes dj_lca_6 rfl (lv_at hl 0 rfl) ?_
  refine lv_iload_n B.exec B.bytes dj_lca_7 rfl (lv_at hl 1 rfl) ?_
  refine va_tb B.exec B.bytes (hO.1.1 0 (by decide)).2.2.2 hS hin rfl dj_lca_8 ?_
  refine lv_sipush (v := 255) B.exec B.bytes dj_lca_9 (by decide) ?_
  refine lv_iand B.exec B.bytes dj_lca_12 ?_
  refine lv_i2c (v := jch i.toNatClampNeg) B.exec B.bytes dj_lca_13 rfl ?_
  exact W.zret (ty := .char) B.exec B.bytes B.returns (jch_nar _ hk) (fun t ht hW => ⟨rfl, ht⟩) (fun q hq => by cases hq) dj_lca_14 (hlocks := B.notSynchronized)
theorem jm_charAt (i : Int32) (h0 : ¬ i < 0) (h1 : i < 108) : Met l yj_charAt.1 (gW yj_charAt) (rmd 3 0 0) (jP b adK adV [.ref (adK 0), .int i]) (QcRead (jch i.toNatClampNeg)) 0 0 (fun _ => False) := by
  refine Met.ofW (cc := yj_charAt.2.1) (maxL := 2) (ret := some .char) (by decide) rfl ?_
  intro p e s m as below meth c s₁ B hml hv
  obtain ⟨rfl, hO⟩ := hv
  have hts := atoms_spec (ws := gW yj_charAt) B.pre
  have hl := lv_entry [.ref (adK 0), .int i] (n := 2) (Nat.le_of_ble_eq_true rfl)
  rw [lg_entry_eq]
  have hl : lv_has _ 2 [(0, .ref (adK 0)), (1, .int i)] := hl
  have hown : s.vm.findClass "java/lang/String" = some m.cls := findClass_of_methodNamed B.named
  have hS : va_S (fun q => b ≤ q) s.heap s.heap [] := va_S.rf
  have hin : vp_in i 108 := vin_c h0 (by have := i_lt.mp h1; have e : (108 : Int32).toInt = 108 := by decide
                                         omega)
  have hk : i.toNatClampNeg < 108 := Nat.not_le.mp fun q => hin (Or.inr q)
  refine lv_aload_n B.exec B.bytes dj_charAt_0 rfl (lv_at hl 0 rfl) ?_
  refine W.callR (r := 1) (W.runV (C := "java/lang/String") (Ts := gW yj_charAt) (As := []) (rest := []) ⟨B.exec, B.bytes, hml, hown, hts⟩ (jm_isLatin1 l b adK adV) ⟨callB_of 0 hts (gw_good kj_isLatin1.1) rfl rfl rfl (hts _ (List.mem_cons_of_mem _ kj_isLatin1.2.1)) (hts _ (List.mem_cons_of_mem _ lj_isLatin1)) kj_isLatin1.2.2 ⟨Nat.le_of_ble_eq_true rfl, Nat.le_of_ble_eq_true rfl⟩, hts _ (List.mem_cons_of_mem _ ij_isLatin1), hts _ (List.mem_cons_of_mem _ vj_isLatin1)⟩
    ⟨jP_blind, vk_recv hO.1 (by decide) hS, fun U hU hW => ⟨rfl, by rw [hU]; exact jO.alike hW.alike hO⟩⟩ rfl rfl hl.1 rfl (Nat.le_of_ble_eq_true rfl) dj_charAt_1 ⟨Nat.le_refl 0, Nat.le_refl 0⟩) ?_
  refine lv_if_eq (tgt := 16) B.exec B.bytes dj_charAt_4 rfl (fun h => absurd h (by decide)) (fun h => ?_)
  refine lv_aload_n B.exec B.bytes dj_charAt_7 rfl (lv_at hl 0 rfl) ?_
  refine vk_getf B.exec B.bytes (hO.1.1 0 (by decide)).2.2.1 hS hown (hts _ (List.mem_cons_of_mem _ fj_9)) (fun _ h => h) dj_charAt_8 ?_
  refine lv_iload_n B.exec B.bytes dj_charAt_11 rfl (lv_at hl 1 rfl) ?_
  refine W.callR (r := jch i.toNatClampNeg) (W.runS (Ts := gW yj_charAt) (As := [.ref (adV 0), .int i]) (rest := []) ⟨B.exec, B.bytes, hml, hown, hts⟩ (jm_lca l b adK adV i h0 h1) ⟨callB_of 2 hts (gw_good kj_lca.1) rfl rfl rfl (hts _ (List.mem_cons_of_mem _ kj_lca.2.1)) (hts _ (List.mem_cons_of_mem _ lj_lca)) kj_lca.2.2 ⟨Nat.le_of_ble_eq_true rfl, Nat.le_of_ble_eq_true rfl⟩, hts _ (List.mem_cons_of_mem _ sj_lca)⟩
    ⟨jP_blind, fun U hU hW => ⟨rfl, by rw [hU]; exact jO.alike hW.alike hO⟩⟩ rfl rfl hl.1 rfl (Nat.le_of_ble_eq_true rfl) dj_charAt_12 ⟨Nat.le_refl 0, Nat.le_refl 0⟩) ?_
  exact W.zret (ty := .char) B.exec B.bytes B.returns (jch_nar _ hk) (fun t ht hW => ⟨rfl, ht⟩) (fun q hq => by cases hq) dj_charAt_15 (hlocks := B.notSynchronized)
end STRS
section RULES6
variable {l : Launch} {E : Nat × Nat × Nat} {n k z pc pc1 : Nat} {lv lv' : List (Nat × Value)} {st : List Value} {M : gM} {L : gL} {R : gR} {Q : Option Value → gM → gL → gR → Prop}
theorem g_strlen {Y : gY} (hY : Y = y_Tokens_init) (hd1 : decode Y.2.1 pc = .ok (.ldc 25, 2)) (hd2 : decode Y.2.1 (pc + 2) = .ok (.invokevirtual 27, 3)) (hp : pc + 5 = pc1) (hcat : (st.map fun v => v.category).sum ≤ 8) (hE : k ≤ E.1 ∧ z ≤ E.2.1) (kk : Wp l Y E n k z pc1 lv (.int 108 :: st) M L R Q) : Wp l Y E n k z pc lv st M L R Q := by
  subst hp
  intro b D cA p e s m args below meth c H locs ls CX hz hP hS hl
  have kk := kk b D cA p e s m args below meth c H locs ls CX hz hP hS hl
  obtain ⟨hx, hb, hr, hlk, hml, hown, hnm, hts, hK, hbs, adK, adV, g1, g2, g3, g4⟩ := CX
  have hown' : s.vm.findClass "CookedLaw$Tokens" = some m.cls := by rw [hY] at hown; exact hown
  refine va_ldcS hx hb hown' g2 hd1 ?_
  refine W.callR (r := 108) (W.runV (C := "java/lang/String") (Ts := gW Y) (As := []) (rest := st.map (cv b)) ⟨hx, hb, hml, hown', hts⟩ (jm_length l b adK adV) ⟨callB_of 0 hts (gw_good kj_length.1) rfl rfl rfl (hts _ (List.mem_cons_of_mem _ kj_length.2.1)) (hts _ (List.mem_cons_of_mem _ lj_length)) kj_length.2.2 (by rw [hY]; exact ⟨Nat.le_of_ble_eq_true rfl, Nat.le_of_ble_eq_true rfl⟩), hts _ (List.mem_cons_of_mem _ ij_length), hts _ (List.mem_cons_of_mem _ vj_length)⟩
    ⟨jP_blind, vk_recv g1 (by decide) hS, fun U hU hW => ⟨rfl, by rw [hU]; exact (jO.alike hW.alike ⟨g1, g3, g4⟩).kept hS.2.1⟩⟩ rfl rfl hl.1 rfl ?_ hd2 hE) kk
  rw [cats_cv]
  show 2 * 0 + _ ≤ 8
  omega
theorem g_strchr {Y : gY} {x v : Int32} (hY : Y = y_Tokens_init) (hd1 : decode Y.2.1 pc = .ok (.ldc 25, 2)) (hd2 : decode Y.2.1 (pc + 2) = .ok (.iload_n 2, 1)) (hd3 : decode Y.2.1 (pc + 3) = .ok (.invokevirtual 33, 3)) (hp : pc + 6 = pc1) (j : Nat) (hv : lv[j]? = some (2, .int x)) (h0 : ¬ x < 0) (h1 : x < 108) (hch : jch x.toNatClampNeg = v) (hcat : (st.map fun v => v.category).sum ≤ 8) (hE : k ≤ E.1 ∧ z ≤ E.2.1) (kk : Wp l Y E n k z pc1 lv (.int v :: st) M L R Q) : Wp l Y E n k z pc lv st M L R Q := by
  subst hp
  intro b D cA p e s m args below meth c H locs ls CX hz hP hS hl
  have kk := kk b D cA p e s m args below meth c H locs ls CX hz hP hS hl
  obtain ⟨hx, hb, hr, hlk, hml, hown, hnm, hts, hK, hbs, adK, adV, g1, g2, g3, g4⟩ := CX
  have hown' : s.vm.findClass "CookedLaw$Tokens" = some m.cls := by rw [hY] at hown; exact hown
  refine va_ldcS hx hb hown' g2 hd1 ?_
  refine lv_iload_n hx hb hd2 rfl (lv_cvat hl hv) ?_
  subst hch
  refine W.callR (r := jch x.toNatClampNeg) (W.runV (C := "java/lang/String") (Ts := gW Y) (As := [.int x]) (rest := st.map (cv b)) ⟨hx, hb, hml, hown', hts⟩ (jm_charAt l b adK adV x h0 h1) ⟨callB_of 1 hts (gw_good kj_charAt.1) rfl rfl rfl (hts _ (List.mem_cons_of_mem _ kj_charAt.2.1)) (hts _ (List.mem_cons_of_mem _ lj_charAt)) kj_charAt.2.2 (by rw [hY]; exact ⟨Nat.le_of_ble_eq_true rfl, Nat.le_of_ble_eq_true rfl⟩), hts _ (List.mem_cons_of_mem _ ij_charAt), hts _ (List.mem_cons_of_mem _ vj_charAt)⟩
    ⟨jP_blind, vk_recv g1 (by decide) hS, fun U hU hW => ⟨rfl, by rw [hU]; exact (jO.alike hW.alike ⟨g1, g3, g4⟩).kept hS.2.1⟩⟩ rfl rfl hl.1 rfl ?_ hd3 hE) kk
  rw [cats_cv]
  show 2 * 0 + _ ≤ 8
  omega
end RULES6
