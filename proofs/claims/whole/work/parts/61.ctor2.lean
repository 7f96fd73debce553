theorem wd_oi : Cond.instanceMethod Lib.objectInit ∈ ojT := ojT_in (by decide +kernel) rfl
theorem wd_oc : Cond.code Lib.objectInit ⟨#[0xb1]⟩ 1 none ∈ ojT := ojT_in (by decide +kernel) rfl
theorem wd_ol0 : Cond.methodLink RX0 3 Lib.objectInit ∈ ojT := ojT_in (by decide +kernel) rfl
theorem wd_in0 : Cond.instantiable RX0 4 ∈ ojT := ojT_in (by decide +kernel) rfl
theorem wd_it0 : Cond.initialized RX0 ∈ ojT := ojT_in (by decide +kernel) rfl
theorem wd_cd0 : Cond.code yX0_init cX0_init 2 none ∈ ojT := ojT_in (by decide +kernel) rfl
theorem wd_im0 : Cond.instanceMethod yX0_init ∈ ojT := ojT_in (by decide +kernel) rfl
theorem wd_dd0 : yX0_init.cls ≠ "java/lang/invoke/MethodHandle" ∧ yX0_init.cls ≠ "java/lang/invoke/VarHandle" ∧ (parseMethodDescriptor yX0_init.desc).map (fun d => d.parameters.length) = some 0 := by decide +kernel
theorem wd_ol1 : Cond.methodLink RX1 3 Lib.objectInit ∈ ojT := ojT_in (by decide +kernel) rfl
theorem wd_in1 : Cond.instantiable RX1 2 ∈ ojT := ojT_in (by decide +kernel) rfl
theorem wd_it1 : Cond.initialized RX1 ∈ ojT := ojT_in (by decide +kernel) rfl
theorem wd_cd1 : Cond.code yX1_init cX1_init 2 none ∈ ojT := ojT_in (by decide +kernel) rfl
theorem wd_im1 : Cond.instanceMethod yX1_init ∈ ojT := ojT_in (by decide +kernel) rfl
theorem wd_dd1 : yX1_init.cls ≠ "java/lang/invoke/MethodHandle" ∧ yX1_init.cls ≠ "java/lang/invoke/VarHandle" ∧ (parseMethodDescriptor yX1_init.desc).map (fun d => d.parameters.length) = some 0 := by decide +kernel
theorem wd_ol2 : Cond.methodLink RX2 3 Lib.objectInit ∈ ojT := ojT_in (by decide +kernel) rfl
theorem wd_in2 : Cond.instantiable RX2 1 ∈ ojT := ojT_in (by decide +kernel) rfl
theorem wd_it2 : Cond.initialized RX2 ∈ ojT := ojT_in (by decide +kernel) rfl
theorem wd_cd2 : Cond.code yX2_init cX2_init 1 none ∈ ojT := ojT_in (by decide +kernel) rfl
theorem wd_im2 : Cond.instanceMethod yX2_init ∈ ojT := ojT_in (by decide +kernel) rfl
theorem wd_dd2 : yX2_init.cls ≠ "java/lang/invoke/MethodHandle" ∧ yX2_init.cls ≠ "java/lang/invoke/VarHandle" ∧ (parseMethodDescriptor yX2_init.desc).map (fun d => d.parameters.length) = some 0 := by decide +kernel
theorem wd_ol3 : Cond.methodLink RX3 3 Lib.objectInit ∈ ojT := ojT_in (by decide +kernel) rfl
theorem wd_in3 : Cond.instantiable RX3 5 ∈ ojT := ojT_in (by decide +kernel) rfl
theorem wd_it3 : Cond.initialized RX3 ∈ ojT := ojT_in (by decide +kernel) rfl
theorem wd_cd3 : Cond.code yX3_init cX3_init 1 none ∈ ojT := ojT_in (by decide +kernel) rfl
theorem wd_im3 : Cond.instanceMethod yX3_init ∈ ojT := ojT_in (by decide +kernel) rfl
theorem wd_dd3 : yX3_init.cls ≠ "java/lang/invoke/MethodHandle" ∧ yX3_init.cls ≠ "java/lang/invoke/VarHandle" ∧ (parseMethodDescriptor yX3_init.desc).map (fun d => d.parameters.length) = some 0 := by decide +kernel
theorem wd_ol4 : Cond.methodLink RX4 3 Lib.objectInit ∈ ojT := ojT_in (by decide +kernel) rfl
theorem wd_in4 : Cond.instantiable RX4 3 ∈ ojT := ojT_in (by decide +kernel) rfl
theorem wd_it4 : Cond.initialized RX4 ∈ ojT := ojT_in (by decide +kernel) rfl
theorem wd_cd4 : Cond.code yX4_init cX4_init 1 none ∈ ojT := ojT_in (by decide +kernel) rfl
theorem wd_im4 : Cond.instanceMethod yX4_init ∈ ojT := ojT_in (by decide +kernel) rfl
theorem wd_dd4 : yX4_init.cls ≠ "java/lang/invoke/MethodHandle" ∧ yX4_init.cls ≠ "java/lang/invoke/VarHandle" ∧ (parseMethodDescriptor yX4_init.desc).map (fun d => d.parameters.length) = some 0 := by decide +kernel
theorem wd_ol5 : Cond.methodLink RX5 1 Lib.objectInit ∈ ojT := ojT_in (by decide +kernel) rfl
theorem wd_in5 : Cond.instantiable RX5 6 ∈ ojT := ojT_in (by decide +kernel) rfl
theorem wd_it5 : Cond.initialized RX5 ∈ ojT := ojT_in (by decide +kernel) rfl
theorem wd_cd5 : Cond.code yX5_init cX5_init 1 none ∈ ojT := ojT_in (by decide +kernel) rfl
theorem wd_im5 : Cond.instanceMethod yX5_init ∈ ojT := ojT_in (by decide +kernel) rfl
theorem wd_dd5 : yX5_init.cls ≠ "java/lang/invoke/MethodHandle" ∧ yX5_init.cls ≠ "java/lang/invoke/VarHandle" ∧ (parseMethodDescriptor yX5_init.desc).map (fun d => d.parameters.length) = some 0 := by decide +kernel
theorem wd_ol6 : Cond.methodLink RX6 3 Lib.objectInit ∈ ojT := ojT_in (by decide +kernel) rfl
theorem wd_in6 : Cond.instantiable RX6 1 ∈ ojT := ojT_in (by decide +kernel) rfl
theorem wd_it6 : Cond.initialized RX6 ∈ ojT := ojT_in (by decide +kernel) rfl
theorem wd_cd6 : Cond.code yX6_init cX6_init 1 none ∈ ojT := ojT_in (by decide +kernel) rfl
theorem wd_im6 : Cond.instanceMethod yX6_init ∈ ojT := ojT_in (by decide +kernel) rfl
theorem wd_dd6 : yX6_init.cls ≠ "java/lang/invoke/MethodHandle" ∧ yX6_init.cls ≠ "java/lang/invoke/VarHandle" ∧ (parseMethodDescriptor yX6_init.desc).map (fun d => d.parameters.length) = some 0 := by decide +kernel
theorem wd_ol7 : Cond.methodLink RX7 3 Lib.objectInit ∈ ojT := ojT_in (by decide +kernel) rfl
theorem wd_in7 : Cond.instantiable RX7 4 ∈ ojT := ojT_in (by decide +kernel) rfl
theorem wd_it7 : Cond.initialized RX7 ∈ ojT := ojT_in (by decide +kernel) rfl
theorem wd_cd7 : Cond.code yX7_init cX7_init 1 none ∈ ojT := ojT_in (by decide +kernel) rfl
theorem wd_im7 : Cond.instanceMethod yX7_init ∈ ojT := ojT_in (by decide +kernel) rfl
theorem wd_dd7 : yX7_init.cls ≠ "java/lang/invoke/MethodHandle" ∧ yX7_init.cls ≠ "java/lang/invoke/VarHandle" ∧ (parseMethodDescriptor yX7_init.desc).map (fun d => d.parameters.length) = some 0 := by decide +kernel
theorem wd_ol8 : Cond.methodLink RX8 3 Lib.objectInit ∈ ojT := ojT_in (by decide +kernel) rfl
theorem wd_in8 : Cond.instantiable RX8 14 ∈ ojT := ojT_in (by decide +kernel) rfl
theorem wd_it8 : Cond.initialized RX8 ∈ ojT := ojT_in (by decide +kernel) rfl
theorem wd_cd8 : Cond.code yX8_init cX8_init 2 none ∈ ojT := ojT_in (by decide +kernel) rfl
theorem wd_im8 : Cond.instanceMethod yX8_init ∈ ojT := ojT_in (by decide +kernel) rfl
theorem wd_dd8 : yX8_init.cls ≠ "java/lang/invoke/MethodHandle" ∧ yX8_init.cls ≠ "java/lang/invoke/VarHandle" ∧ (parseMethodDescriptor yX8_init.desc).map (fun d => d.parameters.length) = some 0 := by decide +kernel
theorem wd_ol9 : Cond.methodLink RX9 3 Lib.objectInit ∈ ojT := ojT_in (by decide +kernel) rfl
theorem wd_in9 : Cond.instantiable RX9 36 ∈ ojT := ojT_in (by decide +kernel) rfl
theorem wd_it9 : Cond.initialized RX9 ∈ ojT := ojT_in (by decide +kernel) rfl
theorem wd_cd9 : Cond.code yX9_init cX9_init 1 none ∈ ojT := ojT_in (by decide +kernel) rfl
theorem wd_im9 : Cond.instanceMethod yX9_init ∈ ojT := ojT_in (by decide +kernel) rfl
theorem wd_dd9 : yX9_init.cls ≠ "java/lang/invoke/MethodHandle" ∧ yX9_init.cls ≠ "java/lang/invoke/VarHandle" ∧ (parseMethodDescriptor yX9_init.desc).map (fun d => d.parameters.length) = some 0 := by decide +kernel
def ojFf (own : String) (ix ci j : Nat) (ty : FieldType) : Prop := ∃ (C : String) (T : u_T) (N : Nat) (tt : Nat → FieldType), vwCl[ci]? = some (C, T, N) ∧ (∀ w ∈ u_ws C T N, w ∈ ojT) ∧ j < N ∧ Cond.fieldLink own ix (T j).1 (T j).2.1 (T j).2.2.1 ∈ ojT ∧ (∀ k, k < N → parseFieldDescriptor (T k).2.2.1 = some (tt k)) ∧ (∀ a, a < N → ∀ b, b < N → a ≠ b → (T a).2.1 ≠ (T b).2.1) ∧ (T j).2.2.2 = true ∧ (T j).1 = own ∧ parseFieldDescriptor (T j).2.2.1 = some ty
theorem ff2_X0_9 : ojFf RX0 9 0 0 (.array .int) := ⟨RX0, TX0, 4, tyX0, rfl, inoX0, by decide, ojT_in (by decide +kernel) rfl, tyX0_ok, nmX0, rfl, rfl, by decide +kernel⟩
theorem ff2_X0_15 : ojFf RX0 15 0 1 (.array .int) := ⟨RX0, TX0, 4, tyX0, rfl, inoX0, by decide, ojT_in (by decide +kernel) rfl, tyX0_ok, nmX0, rfl, rfl, by decide +kernel⟩
theorem ff2_X0_18 : ojFf RX0 18 0 2 (.array .int) := ⟨RX0, TX0, 4, tyX0, rfl, inoX0, by decide, ojT_in (by decide +kernel) rfl, tyX0_ok, nmX0, rfl, rfl, by decide +kernel⟩
theorem ff2_X1_11 : ojFf RX1 11 1 0 (.array (.object "OilWatch$Skimmer")) := ⟨RX1, TX1, 2, tyX1, rfl, inoX1, by decide, ojT_in (by decide +kernel) rfl, tyX1_ok, nmX1, rfl, rfl, by decide +kernel⟩
theorem ff2_X2_9 : ojFf RX2 9 2 0 (.array .int) := ⟨RX2, TX2, 1, tyX2, rfl, inoX2, by decide, ojT_in (by decide +kernel) rfl, tyX2_ok, nmX2, rfl, rfl, by decide +kernel⟩
theorem ff2_X4_9 : ojFf RX4 9 4 2 (.array .boolean) := ⟨RX4, TX4, 3, tyX4, rfl, inoX4, by decide, ojT_in (by decide +kernel) rfl, tyX4_ok, nmX4, rfl, rfl, by decide +kernel⟩
theorem ff2_X6_9 : ojFf RX6 9 6 0 (.array .int) := ⟨RX6, TX6, 1, tyX6, rfl, inoX6, by decide, ojT_in (by decide +kernel) rfl, tyX6_ok, nmX6, rfl, rfl, by decide +kernel⟩
theorem ff2_X7_9 : ojFf RX7 9 7 0 (.array .int) := ⟨RX7, TX7, 4, tyX7, rfl, inoX7, by decide, ojT_in (by decide +kernel) rfl, tyX7_ok, nmX7, rfl, rfl, by decide +kernel⟩
theorem ff2_X7_15 : ojFf RX7 15 7 1 (.array .int) := ⟨RX7, TX7, 4, tyX7, rfl, inoX7, by decide, ojT_in (by decide +kernel) rfl, tyX7_ok, nmX7, rfl, rfl, by decide +kernel⟩
theorem ff2_X8_12 : ojFf RX8 12 8 0 (.object "OilWatch$Net") := ⟨RX8, TX8, 14, tyX8, rfl, inoX8, by decide, ojT_in (by decide +kernel) rfl, tyX8_ok, nmX8, rfl, rfl, by decide +kernel⟩
theorem ff2_X8_19 : ojFf RX8 19 8 1 (.object "OilWatch$Booms") := ⟨RX8, TX8, 14, tyX8, rfl, inoX8, by decide, ojT_in (by decide +kernel) rfl, tyX8_ok, nmX8, rfl, rfl, by decide +kernel⟩
theorem ff2_X8_26 : ojFf RX8 26 8 2 (.object "OilWatch$Sky") := ⟨RX8, TX8, 14, tyX8, rfl, inoX8, by decide, ojT_in (by decide +kernel) rfl, tyX8_ok, nmX8, rfl, rfl, by decide +kernel⟩
theorem ff2_X8_33 : ojFf RX8 33 8 3 (.object "OilWatch$Fleet") := ⟨RX8, TX8, 14, tyX8, rfl, inoX8, by decide, ojT_in (by decide +kernel) rfl, tyX8_ok, nmX8, rfl, rfl, by decide +kernel⟩
theorem ff2_X8_40 : ojFf RX8 40 8 4 (.object "OilWatch$Slick") := ⟨RX8, TX8, 14, tyX8, rfl, inoX8, by decide, ojT_in (by decide +kernel) rfl, tyX8_ok, nmX8, rfl, rfl, by decide +kernel⟩
theorem ff2_X8_44 : ojFf RX8 44 8 5 (.array (.object "OilWatch$Slick")) := ⟨RX8, TX8, 14, tyX8, rfl, inoX8, by decide, ojT_in (by decide +kernel) rfl, tyX8_ok, nmX8, rfl, rfl, by decide +kernel⟩
theorem ff2_X8_51 : ojFf RX8 51 8 6 (.object "OilWatch$Outing") := ⟨RX8, TX8, 14, tyX8, rfl, inoX8, by decide, ojT_in (by decide +kernel) rfl, tyX8_ok, nmX8, rfl, rfl, by decide +kernel⟩
theorem ff2_X8_57 : ojFf RX8 57 8 7 (.array (.object "OilWatch$Ship")) := ⟨RX8, TX8, 14, tyX8, rfl, inoX8, by decide, ojT_in (by decide +kernel) rfl, tyX8_ok, nmX8, rfl, rfl, by decide +kernel⟩
theorem ff2_X8_62 : ojFf RX8 62 8 8 (.array .int) := ⟨RX8, TX8, 14, tyX8, rfl, inoX8, by decide, ojT_in (by decide +kernel) rfl, tyX8_ok, nmX8, rfl, rfl, by decide +kernel⟩
theorem ff2_X9_9 : ojFf RX9 9 9 1 (.array .int) := ⟨RX9, TX9, 36, tyX9, rfl, inoX9, by decide, ojT_in (by decide +kernel) rfl, tyX9_ok, nmX9, rfl, rfl, by decide +kernel⟩
theorem ff2_X9_13 : ojFf RX9 13 9 2 (.array .int) := ⟨RX9, TX9, 36, tyX9, rfl, inoX9, by decide, ojT_in (by decide +kernel) rfl, tyX9_ok, nmX9, rfl, rfl, by decide +kernel⟩
theorem ff2_X9_16 : ojFf RX9 16 9 3 (.array .int) := ⟨RX9, TX9, 36, tyX9, rfl, inoX9, by decide, ojT_in (by decide +kernel) rfl, tyX9_ok, nmX9, rfl, rfl, by decide +kernel⟩
theorem ff2_X9_19 : ojFf RX9 19 9 4 (.array .int) := ⟨RX9, TX9, 36, tyX9, rfl, inoX9, by decide, ojT_in (by decide +kernel) rfl, tyX9_ok, nmX9, rfl, rfl, by decide +kernel⟩
theorem ff2_X9_22 : ojFf RX9 22 9 5 (.array .boolean) := ⟨RX9, TX9, 36, tyX9, rfl, inoX9, by decide, ojT_in (by decide +kernel) rfl, tyX9_ok, nmX9, rfl, rfl, by decide +kernel⟩
theorem ff2_X9_26 : ojFf RX9 26 9 6 (.array .int) := ⟨RX9, TX9, 36, tyX9, rfl, inoX9, by decide, ojT_in (by decide +kernel) rfl, tyX9_ok, nmX9, rfl, rfl, by decide +kernel⟩
theorem ff2_X9_29 : ojFf RX9 29 9 7 (.array .int) := ⟨RX9, TX9, 36, tyX9, rfl, inoX9, by decide, ojT_in (by decide +kernel) rfl, tyX9_ok, nmX9, rfl, rfl, by decide +kernel⟩
theorem ff2_X9_32 : ojFf RX9 32 9 8 (.array .int) := ⟨RX9, TX9, 36, tyX9, rfl, inoX9, by decide, ojT_in (by decide +kernel) rfl, tyX9_ok, nmX9, rfl, rfl, by decide +kernel⟩
theorem fp2_X9_35 : ojFp RX9 35 9 10 .int := ⟨RX9, TX9, 36, tyX9, rfl, inoX9, by decide, ojT_in (by decide +kernel) rfl, tyX9_ok, nmX9, rfl, by decide +kernel⟩
theorem ff2_X9_39 : ojFf RX9 39 9 15 (.array .int) := ⟨RX9, TX9, 36, tyX9, rfl, inoX9, by decide, ojT_in (by decide +kernel) rfl, tyX9_ok, nmX9, rfl, rfl, by decide +kernel⟩
theorem ff2_X9_42 : ojFf RX9 42 9 16 (.array .int) := ⟨RX9, TX9, 36, tyX9, rfl, inoX9, by decide, ojT_in (by decide +kernel) rfl, tyX9_ok, nmX9, rfl, rfl, by decide +kernel⟩
theorem ff2_X9_45 : ojFf RX9 45 9 17 (.array .int) := ⟨RX9, TX9, 36, tyX9, rfl, inoX9, by decide, ojT_in (by decide +kernel) rfl, tyX9_ok, nmX9, rfl, rfl, by decide +kernel⟩
theorem ff2_X9_48 : ojFf RX9 48 9 18 (.array .int) := ⟨RX9, TX9, 36, tyX9, rfl, inoX9, by decide, ojT_in (by decide +kernel) rfl, tyX9_ok, nmX9, rfl, rfl, by decide +kernel⟩
theorem ff2_X9_51 : ojFf RX9 51 9 19 (.array .int) := ⟨RX9, TX9, 36, tyX9, rfl, inoX9, by decide, ojT_in (by decide +kernel) rfl, tyX9_ok, nmX9, rfl, rfl, by decide +kernel⟩
theorem ff2_X9_54 : ojFf RX9 54 9 20 (.array .int) := ⟨RX9, TX9, 36, tyX9, rfl, inoX9, by decide, ojT_in (by decide +kernel) rfl, tyX9_ok, nmX9, rfl, rfl, by decide +kernel⟩
theorem ff2_X9_57 : ojFf RX9 57 9 21 (.array .int) := ⟨RX9, TX9, 36, tyX9, rfl, inoX9, by decide, ojT_in (by decide +kernel) rfl, tyX9_ok, nmX9, rfl, rfl, by decide +kernel⟩
theorem ff2_X9_60 : ojFf RX9 60 9 22 (.array .boolean) := ⟨RX9, TX9, 36, tyX9, rfl, inoX9, by decide, ojT_in (by decide +kernel) rfl, tyX9_ok, nmX9, rfl, rfl, by decide +kernel⟩
theorem ff2_X9_63 : ojFf RX9 63 9 24 (.array .int) := ⟨RX9, TX9, 36, tyX9, rfl, inoX9, by decide, ojT_in (by decide +kernel) rfl, tyX9_ok, nmX9, rfl, rfl, by decide +kernel⟩
theorem ff2_X9_66 : ojFf RX9 66 9 25 (.array .int) := ⟨RX9, TX9, 36, tyX9, rfl, inoX9, by decide, ojT_in (by decide +kernel) rfl, tyX9_ok, nmX9, rfl, rfl, by decide +kernel⟩
theorem ff2_X9_69 : ojFf RX9 69 9 26 (.array .int) := ⟨RX9, TX9, 36, tyX9, rfl, inoX9, by decide, ojT_in (by decide +kernel) rfl, tyX9_ok, nmX9, rfl, rfl, by decide +kernel⟩
theorem ff2_X9_72 : ojFf RX9 72 9 27 (.array .int) := ⟨RX9, TX9, 36, tyX9, rfl, inoX9, by decide, ojT_in (by decide +kernel) rfl, tyX9_ok, nmX9, rfl, rfl, by decide +kernel⟩
theorem ff2_X9_75 : ojFf RX9 75 9 28 (.array .int) := ⟨RX9, TX9, 36, tyX9, rfl, inoX9, by decide, ojT_in (by decide +kernel) rfl, tyX9_ok, nmX9, rfl, rfl, by decide +kernel⟩
theorem ff2_X9_78 : ojFf RX9 78 9 29 (.array .int) := ⟨RX9, TX9, 36, tyX9, rfl, inoX9, by decide, ojT_in (by decide +kernel) rfl, tyX9_ok, nmX9, rfl, rfl, by decide +kernel⟩
theorem ff2_X9_81 : ojFf RX9 81 9 32 (.array .boolean) := ⟨RX9, TX9, 36, tyX9, rfl, inoX9, by decide, ojT_in (by decide +kernel) rfl, tyX9_ok, nmX9, rfl, rfl, by decide +kernel⟩
theorem ff2_X9_84 : ojFf RX9 84 9 33 (.array .boolean) := ⟨RX9, TX9, 36, tyX9, rfl, inoX9, by decide, ojT_in (by decide +kernel) rfl, tyX9_ok, nmX9, rfl, rfl, by decide +kernel⟩
theorem ff2_X9_87 : ojFf RX9 87 9 34 (.array .int) := ⟨RX9, TX9, 36, tyX9, rfl, inoX9, by decide, ojT_in (by decide +kernel) rfl, tyX9_ok, nmX9, rfl, rfl, by decide +kernel⟩
theorem ff2_X9_90 : ojFf RX9 90 9 35 (.array .int) := ⟨RX9, TX9, 36, tyX9, rfl, inoX9, by decide, ojT_in (by decide +kernel) rfl, tyX9_ok, nmX9, rfl, rfl, by decide +kernel⟩
section ojQ2
variable {p : Program} {l : Launch} {e : Env} {R : Room} {s : State} {m : MethodId} {args : Array Value} {below : List Frame} {meth : Method} {c : Code} {H : Heap} {locs : List Loc} {cells slots : Nat} {Q : State → Prop} {D : va_G} {E : ojE} {A : Nat → Prop} {own : String} {cc : ByteArray} {pc nL : Nat} {ls : Array Slot} {rest : List Value} {ws : va_W} {tys : List (ClassId × FieldType)}
theorem oj_putF {ix ci j a : Nat} {ty : FieldType} {v : Value} {fs : List Value} (hf : ojFf own ix ci j ty) (hx : p.tables.exec = Jvm.exec) (hb : c.code = cc) (hown : s.vm.findClass own = some m.cls) (ht : ∀ w ∈ ojT, w.before args s = true) (hin : meth.name = "<init>") (hK : va_K D vwCl tys s) (hP : va_P D vwCl ws H) (hD : va_D A ws) (hS : va_S A s.heap H locs) (q0 : Nat) (he : ws[q0]? = some (a, .inr (ci, fs))) (hn : narrow ty v = v) (hfit : fits ty v = true) (hl : j < fs.length) (hd : decode cc pc = .ok (.putfield ix, 3))
    (kk : ∀ (H1 : Heap) (locs1 : List Loc), va_P D vwCl (ws.set q0 (a, .inr (ci, fs.set j v))) H1 → va_D A (ws.set q0 (a, .inr (ci, fs.set j v))) → va_S A s.heap H1 locs1 → W p l e R s m args below meth c H1 locs1 cells slots Q (F0 m (pc + 3) ls rest)) : W p l e R s m args below meth c H locs cells slots Q (F0 m pc ls (v :: .ref a :: rest)) := by
  obtain ⟨C, T, N, tt, h1, h2, h3, h4, h5, h6, h7, h8, h9⟩ := hf
  exact va_putF (Ts := ojT) hx hb ht h2 tt h5 h6 hown hK hP hD hS q0 he h1 j h3 (ht _ h4) (fun _ h => h) h7 hin h8 h9 hn hfit hl hd kk
theorem oj_putN {ix ci j a : Nat} {ty : FieldType} {v : Value} {fs : List Value} (hf : ojFp own ix ci j ty) (hx : p.tables.exec = Jvm.exec) (hb : c.code = cc) (hown : s.vm.findClass own = some m.cls) (ht : ∀ w ∈ ojT, w.before args s = true) (hK : va_K D vwCl tys s) (hP : va_P D vwCl ws H) (hD : va_D A ws) (hS : va_S A s.heap H locs) (q0 : Nat) (he : ws[q0]? = some (a, .inr (ci, fs))) (hn : narrow ty v = v) (hfit : fits ty v = true) (hl : j < fs.length) (hd : decode cc pc = .ok (.putfield ix, 3))
    (kk : ∀ (H1 : Heap) (locs1 : List Loc), va_P D vwCl (ws.set q0 (a, .inr (ci, fs.set j v))) H1 → va_D A (ws.set q0 (a, .inr (ci, fs.set j v))) → va_S A s.heap H1 locs1 → W p l e R s m args below meth c H1 locs1 cells slots Q (F0 m (pc + 3) ls rest)) : W p l e R s m args below meth c H locs cells slots Q (F0 m pc ls (v :: .ref a :: rest)) := by
  obtain ⟨C, T, N, tt, h1, h2, h3, h4, h5, h6, h7, h9⟩ := hf
  exact va_put (Ts := ojT) hx hb ht h2 tt h5 h6 hown hK hP hD hS q0 he h1 j h3 (ht _ h4) (fun _ h => h) h7 h9 hn hfit hl hd kk
theorem ojI_W {y : MethodName} {maxL L mc ms h0 : Nat} {e0 : va_E} {post : va_W → Prop} (hy : plainName y.cls = true) (hyo : y.cls = own) (hyi : y.name = "<init>") (hm : 1 ≤ maxL)
    (body : ∀ (p : Program) (e : Env) (s : State) (m : MethodId) (below : List Frame) (meth : Method) (c : Code) (Q : State → Prop) (A : Nat → Prop) (ls : Array Slot), p.tables.exec = Jvm.exec → c.code = cc → c.maxLocals = maxL → s.vm.findClass own = some m.cls → (∀ w ∈ ojT, w.before #[Value.ref h0] s = true) → meth.name = "<init>" → va_K D vwCl (ojTy E) s → nwO s → va_P D vwCl [(h0, e0)] s.heap → va_D A [(h0, e0)] → va_S A s.heap s.heap [] → (∀ x, s.heap.size ≤ x → A x) → lv_has ls maxL [(0, .ref h0)] → (∀ (w : va_W) (H : Heap) (locs : List Loc) (pc : Nat) (ls1 : Array Slot), post w → va_P D vwCl w H → va_D A w → va_S A s.heap H locs → decode cc pc = .ok (.return_, 1) → W p l e (ojRi2 L mc ms) s m #[Value.ref h0] below meth c H locs mc ms Q (F0 m pc ls1 [])) → W p l e (ojRi2 L mc ms) s m #[Value.ref h0] below meth c s.heap [] 0 0 Q (F0 m 0 ls [])) : ojI l D E y cc maxL L mc ms h0 e0 post := by
  intro sz
  refine Met.ofW (cc := cc) (maxL := maxL) (ret := none) hy rfl ?_
  intro p e s m args below meth c s₁ B hml hv
  obtain ⟨rfl, hsz, hP, hK, hD0, hN⟩ := hv
  have hx := B.exec
  have hb := B.bytes
  have hr := B.returns
  have hts := atoms_spec (ws := ojWs y cc maxL none) B.pre
  have hcl : s.vm.findClass own = some m.cls := by rw [← hyo]; exact findClass_of_methodNamed B.named
  have hin : meth.name = "<init>" := (name_of_methodNamed B.named B.method).1.trans hyi
  subst hsz
  have hD := hD0.self (sz := s.heap.size)
  have hl := lv_entry [.ref h0] (n := maxL) hm
  rw [lg_entry_eq]
  refine body p e s m below meth c _ (va_A [(h0, e0)] s.heap.size) _ hx hb hml hcl (fun w hw => hts w (List.mem_cons_of_mem _ hw)) hin hK hN hP hD va_S.rf (fun q h => Or.inr h) hl ?_
  intro w H locs pc ls1 hpost hP1 hD1 hS1 hd
  exact W.vret hx hb hr (fun t ht hW => ⟨⟨w, rfl, hpost, by rw [ht]; exact hP1, va_K.moved hW.alike hK, hD1⟩, hS1.F ht⟩) hS1.2.2 hd
end ojQ2
theorem i_X2 {l : Launch} {D : va_G} {E : ojE} {h0 : Nat} : ojI l D E yX2_init cX2_init 1 1 1 96 h0 (.inr (2, [.null])) (fun w => ∃ q1 : Nat, w = [(h0, .inr (2, [.ref q1])), (q1, .inl (E.1, 96, .inl (fun _ => 0)))]) := by
  refine ojI_W (own := RX2) (by decide) rfl rfl (by decide) ?_
  intro p e s m below meth c Q A ls hx hb hml hown ht hin hK hN hP hD hS hA hl ret
  refine lv_aload_n hx hb dX2_init_0 rfl (lv_at hl 0 rfl) ?_
  refine W.objInit hx hb hown (ht _ wd_ol2) (ht _ wd_oi) (ht _ wd_oc) rfl (by rw [hml]; exact hl.1) rfl dX2_init_1 (Nat.le_of_ble_eq_true rfl) (Nat.le_of_ble_eq_true rfl) ?_
  refine W.eq (g2 := F0 m 4 ls []) rfl ?_
  refine lv_aload_n hx hb dX2_init_4 rfl (lv_at hl 0 rfl) ?_
  refine lv_bipush (v := 96) hx hb dX2_init_5 (by decide) ?_
  refine oj_newI (N := 96) hx hb ht hK hP hD hS hA (by decide) (by decide) (by decide) (Nat.le_of_ble_eq_true rfl) (Nat.le_of_ble_eq_true rfl) dX2_init_7 (fun q1 H hP hD hS => ?_)
  have hP : va_P D vwCl [(h0, .inr (2, [.null])), (q1, .inl (E.1, 96, .inl (fun _ => 0)))] H := hP
  have hD : va_D A [(h0, .inr (2, [.null])), (q1, .inl (E.1, 96, .inl (fun _ => 0)))] := hD
  refine oj_putF (v := .ref q1) ff2_X2_9 hx hb hown ht hin hK hP hD hS 0 rfl rfl rfl (Nat.le_of_ble_eq_true rfl) dX2_init_9 (fun H locs hP hD hS => ?_)
  have hP : va_P D vwCl [(h0, .inr (2, [.ref q1])), (q1, .inl (E.1, 96, .inl (fun _ => 0)))] H := hP
  have hD : va_D A [(h0, .inr (2, [.ref q1])), (q1, .inl (E.1, 96, .inl (fun _ => 0)))] := hD
  exact ret _ _ _ _ _ ⟨q1, rfl⟩ hP hD hS dX2_init_12
theorem i_X3 {l : Launch} {D : va_G} {E : ojE} {h0 : Nat} : ojI l D E yX3_init cX3_init 1 1 0 0 h0 (.inr (3, [.int 0, .int 0, .int 0, .int 0, .int 0])) (fun w => w = [(h0, .inr (3, [.int 0, .int 0, .int 0, .int 0, .int 0]))]) := by
  refine ojI_W (own := RX3) (by decide) rfl rfl (by decide) ?_
  intro p e s m below meth c Q A ls hx hb hml hown ht hin hK hN hP hD hS hA hl ret
  refine lv_aload_n hx hb dX3_init_0 rfl (lv_at hl 0 rfl) ?_
  refine W.objInit hx hb hown (ht _ wd_ol3) (ht _ wd_oi) (ht _ wd_oc) rfl (by rw [hml]; exact hl.1) rfl dX3_init_1 (Nat.le_of_ble_eq_true rfl) (Nat.le_of_ble_eq_true rfl) ?_
  refine W.eq (g2 := F0 m 4 ls []) rfl ?_
  exact ret _ _ _ _ _ rfl hP hD hS dX3_init_4
theorem i_X4 {l : Launch} {D : va_G} {E : ojE} {h0 : Nat} : ojI l D E yX4_init cX4_init 1 1 1 96 h0 (.inr (4, [.int 0, .int 0, .null])) (fun w => ∃ q1 : Nat, w = [(h0, .inr (4, [.int 0, .int 0, .ref q1])), (q1, .inl (E.2.1, 96, .inl (fun _ => 0)))]) := by
  refine ojI_W (own := RX4) (by decide) rfl rfl (by decide) ?_
  intro p e s m below meth c Q A ls hx hb hml hown ht hin hK hN hP hD hS hA hl ret
  refine lv_aload_n hx hb dX4_init_0 rfl (lv_at hl 0 rfl) ?_
  refine W.objInit hx hb hown (ht _ wd_ol4) (ht _ wd_oi) (ht _ wd_oc) rfl (by rw [hml]; exact hl.1) rfl dX4_init_1 (Nat.le_of_ble_eq_true rfl) (Nat.le_of_ble_eq_true rfl) ?_
  refine W.eq (g2 := F0 m 4 ls []) rfl ?_
  refine lv_aload_n hx hb dX4_init_4 rfl (lv_at hl 0 rfl) ?_
  refine lv_bipush (v := 96) hx hb dX4_init_5 (by decide) ?_
  refine oj_newZ (N := 96) hx hb ht hK hP hD hS hA (by decide) (by decide) (by decide) (Nat.le_of_ble_eq_true rfl) (Nat.le_of_ble_eq_true rfl) dX4_init_7 (fun q1 H hP hD hS => ?_)
  have hP : va_P D vwCl [(h0, .inr (4, [.int 0, .int 0, .null])), (q1, .inl (E.2.1, 96, .inl (fun _ => 0)))] H := hP
  have hD : va_D A [(h0, .inr (4, [.int 0, .int 0, .null])), (q1, .inl (E.2.1, 96, .inl (fun _ => 0)))] := hD
  refine oj_putF (v := .ref q1) ff2_X4_9 hx hb hown ht hin hK hP hD hS 0 rfl rfl rfl (Nat.le_of_ble_eq_true rfl) dX4_init_9 (fun H locs hP hD hS => ?_)
  have hP : va_P D vwCl [(h0, .inr (4, [.int 0, .int 0, .ref q1])), (q1, .inl (E.2.1, 96, .inl (fun _ => 0)))] H := hP
  have hD : va_D A [(h0, .inr (4, [.int 0, .int 0, .ref q1])), (q1, .inl (E.2.1, 96, .inl (fun _ => 0)))] := hD
  exact ret _ _ _ _ _ ⟨q1, rfl⟩ hP hD hS dX4_init_12
theorem i_X5 {l : Launch} {D : va_G} {E : ojE} {h0 : Nat} : ojI l D E yX5_init cX5_init 1 1 0 0 h0 (.inr (5, [.int 0, .int 0, .int 0, .int 0, .int 0, .int 0])) (fun w => w = [(h0, .inr (5, [.int 0, .int 0, .int 0, .int 0, .int 0, .int 0]))]) := by
  refine ojI_W (own := RX5) (by decide) rfl rfl (by decide) ?_
  intro p e s m below meth c Q A ls hx hb hml hown ht hin hK hN hP hD hS hA hl ret
  refine lv_aload_n hx hb dX5_init_0 rfl (lv_at hl 0 rfl) ?_
  refine W.objInit hx hb hown (ht _ wd_ol5) (ht _ wd_oi) (ht _ wd_oc) rfl (by rw [hml]; exact hl.1) rfl dX5_init_1 (Nat.le_of_ble_eq_true rfl) (Nat.le_of_ble_eq_true rfl) ?_
  refine W.eq (g2 := F0 m 4 ls []) rfl ?_
  exact ret _ _ _ _ _ rfl hP hD hS dX5_init_4
theorem i_X6 {l : Launch} {D : va_G} {E : ojE} {h0 : Nat} : ojI l D E yX6_init cX6_init 1 1 1 1503 h0 (.inr (6, [.null])) (fun w => ∃ q1 : Nat, w = [(h0, .inr (6, [.ref q1])), (q1, .inl (E.1, 1503, .inl (fun _ => 0)))]) := by
  refine ojI_W (own := RX6) (by decide) rfl rfl (by decide) ?_
  intro p e s m below meth c Q A ls hx hb hml hown ht hin hK hN hP hD hS hA hl ret
  refine lv_aload_n hx hb dX6_init_0 rfl (lv_at hl 0 rfl) ?_
  refine W.objInit hx hb hown (ht _ wd_ol6) (ht _ wd_oi) (ht _ wd_oc) rfl (by rw [hml]; exact hl.1) rfl dX6_init_1 (Nat.le_of_ble_eq_true rfl) (Nat.le_of_ble_eq_true rfl) ?_
  refine W.eq (g2 := F0 m 4 ls []) rfl ?_
  refine lv_aload_n hx hb dX6_init_4 rfl (lv_at hl 0 rfl) ?_
  refine lv_sipush (v := 1503) hx hb dX6_init_5 (by decide) ?_
  refine oj_newI (N := 1503) hx hb ht hK hP hD hS hA (by decide) (by decide) (by decide) (Nat.le_of_ble_eq_true rfl) (Nat.le_of_ble_eq_true rfl) dX6_init_8 (fun q1 H hP hD hS => ?_)
  have hP : va_P D vwCl [(h0, .inr (6, [.null])), (q1, .inl (E.1, 1503, .inl (fun _ => 0)))] H := hP
  have hD : va_D A [(h0, .inr (6, [.null])), (q1, .inl (E.1, 1503, .inl (fun _ => 0)))] := hD
  refine oj_putF (v := .ref q1) ff2_X6_9 hx hb hown ht hin hK hP hD hS 0 rfl rfl rfl (Nat.le_of_ble_eq_true rfl) dX6_init_10 (fun H locs hP hD hS => ?_)
  have hP : va_P D vwCl [(h0, .inr (6, [.ref q1])), (q1, .inl (E.1, 1503, .inl (fun _ => 0)))] H := hP
  have hD : va_D A [(h0, .inr (6, [.ref q1])), (q1, .inl (E.1, 1503, .inl (fun _ => 0)))] := hD
  exact ret _ _ _ _ _ ⟨q1, rfl⟩ hP hD hS dX6_init_13
theorem i_X7 {l : Launch} {D : va_G} {E : ojE} {h0 : Nat} : ojI l D E yX7_init cX7_init 1 1 2 100 h0 (.inr (7, [.null, .null, .int 0, .int 0])) (fun w => ∃ q1 q2 : Nat, w = [(h0, .inr (7, [.ref q1, .ref q2, .int 0, .int 0])), (q1, .inl (E.1, 96, .inl (fun _ => 0))), (q2, .inl (E.1, 4, .inl (fun _ => 0)))]) := by
  refine ojI_W (own := RX7) (by decide) rfl rfl (by decide) ?_
  intro p e s m below meth c Q A ls hx hb hml hown ht hin hK hN hP hD hS hA hl ret
  refine lv_aload_n hx hb dX7_init_0 rfl (lv_at hl 0 rfl) ?_
  refine W.objInit hx hb hown (ht _ wd_ol7) (ht _ wd_oi) (ht _ wd_oc) rfl (by rw [hml]; exact hl.1) rfl dX7_init_1 (Nat.le_of_ble_eq_true rfl) (Nat.le_of_ble_eq_true rfl) ?_
  refine W.eq (g2 := F0 m 4 ls []) rfl ?_
  refine lv_aload_n hx hb dX7_init_4 rfl (lv_at hl 0 rfl) ?_
  refine lv_bipush (v := 96) hx hb dX7_init_5 (by decide) ?_
  refine oj_newI (N := 96) hx hb ht hK hP hD hS hA (by decide) (by decide) (by decide) (Nat.le_of_ble_eq_true rfl) (Nat.le_of_ble_eq_true rfl) dX7_init_7 (fun q1 H hP hD hS => ?_)
  have hP : va_P D vwCl [(h0, .inr (7, [.null, .null, .int 0, .int 0])), (q1, .inl (E.1, 96, .inl (fun _ => 0)))] H := hP
  have hD : va_D A [(h0, .inr (7, [.null, .null, .int 0, .int 0])), (q1, .inl (E.1, 96, .inl (fun _ => 0)))] := hD
  refine oj_putF (v := .ref q1) ff2_X7_9 hx hb hown ht hin hK hP hD hS 0 rfl rfl rfl (Nat.le_of_ble_eq_true rfl) dX7_init_9 (fun H locs hP hD hS => ?_)
  have hP : va_P D vwCl [(h0, .inr (7, [.ref q1, .null, .int 0, .int 0])), (q1, .inl (E.1, 96, .inl (fun _ => 0)))] H := hP
  have hD : va_D A [(h0, .inr (7, [.ref q1, .null, .int 0, .int 0])), (q1, .inl (E.1, 96, .inl (fun _ => 0)))] := hD
  refine lv_aload_n hx hb dX7_init_12 rfl (lv_at hl 0 rfl) ?_
  refine lv_iconst (v := 4) hx hb dX7_init_13 (by decide) ?_
  refine oj_newI (N := 4) hx hb ht hK hP hD hS hA (by decide) (by decide) (by decide) (Nat.le_of_ble_eq_true rfl) (Nat.le_of_ble_eq_true rfl) dX7_init_14 (fun q2 H hP hD hS => ?_)
  have hP : va_P D vwCl [(h0, .inr (7, [.ref q1, .null, .int 0, .int 0])), (q1, .inl (E.1, 96, .inl (fun _ => 0))), (q2, .inl (E.1, 4, .inl (fun _ => 0)))] H := hP
  have hD : va_D A [(h0, .inr (7, [.ref q1, .null, .int 0, .int 0])), (q1, .inl (E.1, 96, .inl (fun _ => 0))), (q2, .inl (E.1, 4, .inl (fun _ => 0)))] := hD
  refine oj_putF (v := .ref q2) ff2_X7_15 hx hb hown ht hin hK hP hD hS 0 rfl rfl rfl (Nat.le_of_ble_eq_true rfl) dX7_init_16 (fun H locs hP hD hS => ?_)
  have hP : va_P D vwCl [(h0, .inr (7, [.ref q1, .ref q2, .int 0, .int 0])), (q1, .inl (E.1, 96, .inl (fun _ => 0))), (q2, .inl (E.1, 4, .inl (fun _ => 0)))] H := hP
  have hD : va_D A [(h0, .inr (7, [.ref q1, .ref q2, .int 0, .int 0])), (q1, .inl (E.1, 96, .inl (fun _ => 0))), (q2, .inl (E.1, 4, .inl (fun _ => 0)))] := hD
  exact ret _ _ _ _ _ ⟨q1, q2, rfl⟩ hP hD hS dX7_init_19
