theorem tw_25 : Cond.classLink RX7 (11 : Nat) RX5 ∈ TB := TB_in 75 (by decide +kernel) rfl
theorem tw_26 : Cond.instantiable RX5 (14 : Nat) ∈ TB := TB_in 76 (by decide +kernel) rfl
theorem tw_28 : Cond.instanceMethod yX5_init ∈ TB := TB_in 78 (by decide +kernel) rfl
theorem tw_29 : Cond.code yX5_init cX5_init (1 : Nat) (Option.none : Option Jvm.ClassFile.FieldType) ∈ TB := TB_in 79 (by decide +kernel) rfl
theorem tw_31 : Cond.classLink RX5 (37 : Nat) RX1 ∈ TB := TB_in 81 (by decide +kernel) rfl
theorem tw_32 : Cond.instantiable RX1 (4 : Nat) ∈ TB := TB_in 82 (by decide +kernel) rfl
theorem tw_33 : Cond.methodLink RX5 (39 : Nat) yX1_init ∈ TB := TB_in 83 (by decide +kernel) rfl
theorem tw_34 : Cond.instanceMethod yX1_init ∈ TB := TB_in 84 (by decide +kernel) rfl
theorem tw_35 : Cond.code yX1_init cX1_init (2 : Nat) (Option.none : Option Jvm.ClassFile.FieldType) ∈ TB := TB_in 85 (by decide +kernel) rfl
theorem tw_59 : Cond.arrayClass Jvm.ClassFile.FieldType.int ∈ TB := TB_in 109 (by decide +kernel) rfl
theorem tw_130 : Cond.classLink RX7 (26 : Nat) RX3 ∈ TB := TB_in 180 (by decide +kernel) rfl
theorem tw_131 : Cond.instantiable RX3 (6 : Nat) ∈ TB := TB_in 181 (by decide +kernel) rfl
theorem tw_133 : Cond.instanceMethod yX3_init ∈ TB := TB_in 183 (by decide +kernel) rfl
theorem tw_134 : Cond.code yX3_init cX3_init (1 : Nat) (Option.none : Option Jvm.ClassFile.FieldType) ∈ TB := TB_in 184 (by decide +kernel) rfl
theorem tw_136 : Cond.classLink RX3 (19 : Nat) RX2 ∈ TB := TB_in 186 (by decide +kernel) rfl
theorem tw_137 : Cond.instantiable RX2 (8 : Nat) ∈ TB := TB_in 187 (by decide +kernel) rfl
theorem tw_139 : Cond.instanceMethod yX2_init ∈ TB := TB_in 189 (by decide +kernel) rfl
theorem tw_140 : Cond.code yX2_init cX2_init (1 : Nat) (Option.none : Option Jvm.ClassFile.FieldType) ∈ TB := TB_in 190 (by decide +kernel) rfl
theorem tw_169 : Cond.arrayClass Jvm.ClassFile.FieldType.byte ∈ TB := TB_in 219 (by decide +kernel) rfl
theorem tw_191 : Cond.classLink RX7 (33 : Nat) RX2 ∈ TB := TB_in 241 (by decide +kernel) rfl
theorem tw_194 : Cond.classLink RX7 (44 : Nat) RX4 ∈ TB := TB_in 244 (by decide +kernel) rfl
theorem tw_195 : Cond.instantiable RX4 (3 : Nat) ∈ TB := TB_in 245 (by decide +kernel) rfl
theorem tw_197 : Cond.instanceMethod yX4_init ∈ TB := TB_in 247 (by decide +kernel) rfl
theorem tw_198 : Cond.code yX4_init cX4_init (1 : Nat) (Option.none : Option Jvm.ClassFile.FieldType) ∈ TB := TB_in 248 (by decide +kernel) rfl
theorem tw_210 : Cond.classLink RX7 (51 : Nat) RX0 ∈ TB := TB_in 260 (by decide +kernel) rfl
theorem tw_211 : Cond.instantiable RX0 (5 : Nat) ∈ TB := TB_in 261 (by decide +kernel) rfl
theorem tw_213 : Cond.instanceMethod yX0_init ∈ TB := TB_in 263 (by decide +kernel) rfl
theorem tw_214 : Cond.code yX0_init cX0_init (1 : Nat) (Option.none : Option Jvm.ClassFile.FieldType) ∈ TB := TB_in 264 (by decide +kernel) rfl
theorem tw_234 : Cond.classLink RX7 (58 : Nat) RX6 ∈ TB := TB_in 284 (by decide +kernel) rfl
theorem tw_236 : Cond.instantiable RX6 (3 : Nat) ∈ TB := TB_in 286 (by decide +kernel) rfl
theorem tw_238 : Cond.instanceMethod yX6_init ∈ TB := TB_in 288 (by decide +kernel) rfl
theorem tw_239 : Cond.code yX6_init cX6_init (1 : Nat) (Option.none : Option Jvm.ClassFile.FieldType) ∈ TB := TB_in 289 (by decide +kernel) rfl
theorem tw_254 : Cond.arrayClass Jvm.ClassFile.FieldType.long ∈ TB := TB_in 304 (by decide +kernel) rfl
theorem tw_725 : Cond.methodLink RX8 (9 : Nat) yX8_fresh ∈ TB := TB_in 775 (by decide +kernel) rfl
theorem tw_726 : Cond.static yX8_fresh ∈ TB := TB_in 776 (by decide +kernel) rfl
theorem tw_727 : Cond.code yX8_fresh cX8_fresh (1 : Nat) (Option.some (Jvm.ClassFile.FieldType.array Jvm.ClassFile.FieldType.int)) ∈ TB := TB_in 777 (by decide +kernel) rfl
theorem tw_822 : Cond.arrayClass Jvm.ClassFile.FieldType.char ∈ TB := TB_in 872 (by decide +kernel) rfl
theorem tn_X7_obj : Cond.methodLink RX7 5 Lib.objectInit ∈ TB := TB_in 72 (by decide +kernel) rfl
theorem tn_X5_obj : Cond.methodLink RX5 3 Lib.objectInit ∈ TB := TB_in 80 (by decide +kernel) rfl
theorem tn_X1_obj : Cond.methodLink RX1 3 Lib.objectInit ∈ TB := TB_in 86 (by decide +kernel) rfl
theorem tn_X3_obj : Cond.methodLink RX3 3 Lib.objectInit ∈ TB := TB_in 185 (by decide +kernel) rfl
theorem tn_X2_obj : Cond.methodLink RX2 3 Lib.objectInit ∈ TB := TB_in 191 (by decide +kernel) rfl
theorem tn_X4_obj : Cond.methodLink RX4 3 Lib.objectInit ∈ TB := TB_in 249 (by decide +kernel) rfl
theorem tn_X0_obj : Cond.methodLink RX0 3 Lib.objectInit ∈ TB := TB_in 265 (by decide +kernel) rfl
theorem tn_X6_obj : Cond.methodLink RX6 3 Lib.objectInit ∈ TB := TB_in 290 (by decide +kernel) rfl
theorem tn_X8_obj : Cond.methodLink RX8 3 Lib.objectInit ∈ TB := TB_in 774 (by decide +kernel) rfl
theorem tn_objI : Cond.instanceMethod Lib.objectInit ∈ TB := TB_in 73 (by decide +kernel) rfl
theorem tn_objC : Cond.code Lib.objectInit ⟨#[0xb1]⟩ 1 none ∈ TB := TB_in 74 (by decide +kernel) rfl
theorem tn_min : Cond.methodLink RX1 18 Lib.Math.min.name ∈ TB := TB_in 87 (by decide +kernel) rfl
theorem hi_X1_init : yX1_init.cls ≠ "java/lang/invoke/MethodHandle" ∧ yX1_init.cls ≠ "java/lang/invoke/VarHandle" ∧ (parseMethodDescriptor yX1_init.desc).map (fun d => d.parameters.length) = some 1 := by decide +kernel
theorem hi_X5_init : yX5_init.cls ≠ "java/lang/invoke/MethodHandle" ∧ yX5_init.cls ≠ "java/lang/invoke/VarHandle" ∧ (parseMethodDescriptor yX5_init.desc).map (fun d => d.parameters.length) = some 0 := by decide +kernel
theorem hi_X2_init : yX2_init.cls ≠ "java/lang/invoke/MethodHandle" ∧ yX2_init.cls ≠ "java/lang/invoke/VarHandle" ∧ (parseMethodDescriptor yX2_init.desc).map (fun d => d.parameters.length) = some 0 := by decide +kernel
theorem hi_X3_init : yX3_init.cls ≠ "java/lang/invoke/MethodHandle" ∧ yX3_init.cls ≠ "java/lang/invoke/VarHandle" ∧ (parseMethodDescriptor yX3_init.desc).map (fun d => d.parameters.length) = some 0 := by decide +kernel
theorem hi_X4_init : yX4_init.cls ≠ "java/lang/invoke/MethodHandle" ∧ yX4_init.cls ≠ "java/lang/invoke/VarHandle" ∧ (parseMethodDescriptor yX4_init.desc).map (fun d => d.parameters.length) = some 0 := by decide +kernel
theorem hi_X0_init : yX0_init.cls ≠ "java/lang/invoke/MethodHandle" ∧ yX0_init.cls ≠ "java/lang/invoke/VarHandle" ∧ (parseMethodDescriptor yX0_init.desc).map (fun d => d.parameters.length) = some 0 := by decide +kernel
theorem hi_X6_init : yX6_init.cls ≠ "java/lang/invoke/MethodHandle" ∧ yX6_init.cls ≠ "java/lang/invoke/VarHandle" ∧ (parseMethodDescriptor yX6_init.desc).map (fun d => d.parameters.length) = some 0 := by decide +kernel
def xn_m0 : xw_M := (fun k => match k with
  | 1 => fun j => if j = 8 then 100 else if j = 10 then -1 else 0
  | 8 => fun j => if j = 0 then 5 else 0
  | 11 => fun j => if j = 0 then 8 else 0
  | 14 => fun j => if j = 0 then 8 else 0
  | 17 => fun j => if j = 8 then 100 else if j = 10 then -1 else 0
  | 24 => fun j => if j = 0 then 5 else 0
  | 27 => fun j => if j = 0 then 8 else 0
  | 30 => fun j => if j = 0 then 8 else 0
  | 33 => fun j => if j = 8 then 100 else if j = 10 then -1 else 0
  | 40 => fun j => if j = 0 then 5 else 0
  | 43 => fun j => if j = 0 then 8 else 0
  | 46 => fun j => if j = 0 then 8 else 0
  | 49 => fun j => if j = 3 then -1 else if j = 5 then nI 51 else 0
  | 51 => fun j => if j = 0 then 2 else 0
  | 58 => fun j => if j = 0 then 2 else 0
  | 71 => fun j => if j = 0 then 2 else 0
  | 77 => fun j => if j = 0 then 2 else 0
  | 83 => fun j => if j = 0 then 2 else 0
  | 89 => fun j => if j = 0 then 2 else 0
  | 95 => fun j => if j = 0 then 2 else 0
  | 101 => fun j => if j = 0 then 2 else 0
  | 107 => fun j => if j = 0 then -1 else 0
  | 109 => fun j => if j = 0 then -1 else 0
  | 111 => fun j => if j = 0 then -1 else 0
  | 113 => fun j => if j = 0 then -1 else 0
  | 115 => fun j => if j = 0 then -1 else 0
  | 117 => fun j => if j = 0 then -1 else 0
  | 120 => (upd (fun _ => 0) 61 (100))
  | 128 => (upd (upd (upd (upd (upd (upd (fun _ => 0) 0 (112)) 1 (107)) 2 (118)) 3 (108)) 4 (121)) 5 (100))
  | 129 => (upd (upd (upd (fun _ => 0) 0 (109)) 1 (108)) 2 (121))
  | 130 => (upd (upd (upd (upd (upd (upd (upd (upd (upd (upd (upd (upd (upd (upd (upd (fun _ => 0) 0 (109)) 1 (111)) 2 (114)) 3 (101)) 4 (0)) 5 (108)) 6 (101)) 7 (115)) 8 (115)) 9 (0)) 10 (121)) 11 (97)) 12 (114)) 13 (100)) 14 (0))
  | 134 => (upd (upd (upd (upd (upd (upd (upd (fun _ => 0) 0 (-1)) 1 (0)) 2 (0)) 3 (0)) 4 (1)) 5 (2)) 6 (3))
  | 135 => (upd (upd (upd (upd (upd (upd (upd (upd (upd (upd (upd (upd (upd (upd (upd (upd (upd (upd (upd (upd (upd (fun _ => 0) 0 (10)) 1 (11)) 2 (12)) 3 (0)) 4 (20)) 5 (0)) 6 (30)) 7 (0)) 8 (0)) 9 (0)) 10 (0)) 11 (40)) 12 (50)) 13 (51)) 14 (0)) 15 (0)) 16 (0)) 17 (60)) 18 (71)) 19 (70)) 20 (0))
  | 137 => (upd (upd (upd (upd (upd (upd (fun _ => 0) 0 (-1)) 1 (-1)) 2 (-1)) 3 (-1)) 4 (-1)) 5 (-1))
  | _ => fun _ => 0, fun _ _ => 0)
