/-! What the links say, of the tables' words. -/
def gt_fB (own : Nat → String) (q : Nat × Nat × Nat × Nat × Nat × String × String × Nat) : Bool := match gt_cl[q.2.2.1]? with
  | some (_, T, N) => decide (q.2.2.2.1 < N) && ((if q.2.2.2.2.2.2.1 = "" then gt_w q.2.2.2.2.1 (.fieldLink (own q.1) q.2.1 q.2.2.2.2.2.1 (T q.2.2.2.1).2.1 (T q.2.2.2.1).2.2.1) else gt_w q.2.2.2.2.1 (.fieldLinkNest (own q.1) q.2.1 q.2.2.2.2.2.1 (T q.2.2.2.1).2.1 (T q.2.2.2.1).2.2.1 q.2.2.2.2.2.2.1)) &&
      (decide (q.2.2.2.2.2.1 = (T q.2.2.2.1).1) || gt_w q.2.2.2.2.2.2.2 (.sameField q.2.2.2.2.2.1 (T q.2.2.2.1).1 (T q.2.2.2.1).2.1 (T q.2.2.2.1).2.2.1)))
  | none => false
/-- .. not final -/
def gt_pB (q : Nat × Nat × Nat × Nat × Nat × String × String × Nat) : Bool := match gt_cl[q.2.2.1]? with
  | some (_, T, _) => !(T q.2.2.2.1).2.2.2
  | none => false
def gt_pfB (own : Nat → String) (q : Nat × Nat × Nat × Nat × Nat × String × String × Nat) : Bool := match gt_cl[q.2.2.1]? with
  | some (_, T, _) => (T q.2.2.2.1).2.2.2 && (decide ((T q.2.2.2.1).1 = own q.1) && decide (q.2.2.2.2.2.2.1 = ""))
  | none => false
theorem gt_a0 : gt_ff.all (gt_fB gt_own) = true := by decide +kernel
theorem gt_a1 : gt_pp.all (fun q => gt_fB gt_own q && gt_pB q) = true := by decide +kernel
theorem gt_a2 : gt_pf.all (fun q => gt_fB gt_own q && gt_pfB gt_own q) = true := by decide +kernel
/-- first fields -/
def gt_zero (ty : FieldType) : ai_V := match ty with
  | .long => .inr (.inl 0)
  | .object _ => .inr (.inr none)
  | .array _ => .inr (.inr none)
  | _ => .inl 0
def gt_sim : FieldType → Bool
  | .float => false
  | .double => false
  | _ => true
theorem gt_dzero : (List.range 14).all (fun ci => (List.range (gt_tyFL.getD ci []).length).all fun j => gt_sim (gt_tyF ci j) && decide ((gt_dfl ci).getD j (.inr (.inr none)) = gt_zero (gt_tyF ci j))) = true := by decide +kernel
theorem gt_dl : (List.range 14).all (fun ci => match gt_cl[ci]? with
  | some (_, _, N) => decide ((gt_dfl ci).length = N) && decide ((gt_tyFL.getD ci []).length = N)
  | none => false) = true := by decide +kernel
def gt_nB (q : Nat × Nat × Nat × Nat × Nat × Nat × Nat) : Bool := decide (q.2.2.1 < 14) && match gt_cl[q.2.2.1]? with
  | some (C, _, N) => gt_w q.2.2.2.2.1 (.classLink (gt_own q.1) q.2.1 C) && (gt_w q.2.2.2.2.2.1 (.instantiable C N) && gt_w q.2.2.2.2.2.2 (.initialized C))
  | none => false
theorem gt_a3 : gt_nw.all gt_nB = true := by decide +kernel
def gt_anB (q : Nat × Nat × Nat × Nat × Nat) : Bool := match gt_tyL.getD q.2.2.1 .float with
  | .object C => gt_w q.2.2.2.2 (.classLink (gt_own q.1) q.2.1 C) && (gt_w 134 (.arrayOver (.object C)) || gt_w 798 (.arrayOver (.object C)))
  | _ => false
theorem gt_a5 : gt_an.all gt_anB = true := by decide +kernel
def gt_ckB (q : Nat × Nat × Nat × Nat × Nat) : Bool := match gt_cl[q.2.2.1]? with
  | some (C, _, _) => gt_w q.2.2.2.2 (.classLink (gt_own q.1) q.2.1 C)
  | none => false
theorem gt_a6 : gt_ck.all gt_ckB = true := by decide +kernel
theorem gt_a7 : gt_ld.all (fun q => gt_w q.2.2.2.2 (.constant (gt_own q.1) q.2.1 (Int32.ofNat q.2.2.1))) = true := by decide +kernel
theorem gt_a8 : gt_l2.all (fun q => gt_w q.2.2.2.2 (.constantLong (gt_own q.1) q.2.1 (Int64.ofNat q.2.2.1))) = true := by decide +kernel
/-- calls -/
def gt_cB (q : Nat × Nat × Nat × Nat × Nat × Nat × Nat × String × Nat × Nat) : Bool := match gt_Ml[q.2.2.2.1]? with
  | some (y, _, _) => (if q.2.2.2.2.2.2.2.1 = "" then gt_w q.2.2.2.2.2.2.1 (.methodLink (gt_own q.1) q.2.1 y) else gt_w q.2.2.2.2.2.2.1 (.methodLinkNest (gt_own q.1) q.2.1 y q.2.2.2.2.2.2.2.1)) && (match (parseMethodDescriptor y.desc).map (fun d => d.parameters.length) with
    | some n => match q.2.2.1 with
      | 0 => Nat.beq q.2.2.2.2.1 (n + 1) && (gt_w q.2.2.2.2.2.2.2.2.1 (.instanceMethod y) && (match gt_cl[q.2.2.2.2.2.1]? with
        | some (C, _, _) => gt_w q.2.2.2.2.2.2.2.2.2 (.selects C y y)
        | none => false))
      | 1 => Nat.beq q.2.2.2.2.1 (n + 1) && (gt_w q.2.2.2.2.2.2.2.2.1 (.instanceMethod y) && decide (y.name = "<init>"))
      | 2 => Nat.beq q.2.2.2.2.1 n && gt_w q.2.2.2.2.2.2.2.2.1 (.static y)
      | _ => false
    | none => false)
  | none => false
theorem gt_a9 : gt_ca.all gt_cB = true := by decide +kernel
/-- throws -/
def gt_ns : List String := ["java/lang/RuntimeException", "java/lang/Exception"]
def gt_in (w : Cond) : Bool := gt_Ts.contains w
def gt_tB (q : Nat × Nat × Nat × Nat × Nat) : Bool := Bundle.fit (gt_ex q.2.2.2.1) && (Cond.classLink (gt_own q.1) q.2.1 (gt_ex q.2.2.2.1) :: Cond.initialized (gt_ex q.2.2.2.1) :: (Bundle.ownAtoms0 (gt_own q.1) q.2.2.1 (gt_ex q.2.2.2.1) gt_ns).filter ai_xt).all fun w => gt_in w && w.onTables
theorem gt_nsf : gt_ns.all (fun n => Bundle.fit n) = true := by decide +kernel
theorem gt_a13 : gt_th.all gt_tB = true := by decide +kernel
theorem gt_a10 : gt_ob.all (fun q => gt_w q.2.2.2.2 (.methodLink (gt_own q.1) q.2.1 Lib.objectInit) && decide (q.2.2.1 = 1)) = true := by decide +kernel
theorem gt_a11 : gt_mx.all (fun q => gt_w q.2.2.2.2 (.methodLink (gt_own q.1) q.2.1 Lib.Math.max.name) && decide (q.2.2.1 = 2)) = true := by decide +kernel
theorem gt_a12 : gt_mm.all (fun q => gt_w q.2.2.2.2 (.methodLink (gt_own q.1) q.2.1 Lib.Math.min.name) && decide (q.2.2.1 = 2)) = true := by decide +kernel
theorem gt_a14 : gt_xt.all (fun q => if q.2.2.1 = 0 then gt_w q.2.2.2.2 (.fieldLink (gt_own q.1) q.2.1 "java/util/ArrayList" "DEFAULTCAPACITY_EMPTY_ELEMENTDATA" "[Ljava/lang/Object;") else if q.2.2.1 = 1 then gt_w q.2.2.2.2 (.classLink (gt_own q.1) q.2.1 "[Ljava/lang/Object;") else if q.2.2.1 = 2 then gt_w q.2.2.2.2 (.methodLink (gt_own q.1) q.2.1 ai_gc) else gt_w q.2.2.2.2 (.methodLink (gt_own q.1) q.2.1 arraycopyName)) = true := by decide +kernel
/-- the classes -/
def gt_layI : List (List Nat) := [[476, 478, 480, 482, 484, 486, 488, 490, 492, 494], [149, 151, 153, 155], [190, 192, 194, 196, 198, 200, 202, 204, 206, 208, 210, 212, 214, 216], [242, 244, 246, 248, 250, 252, 254], [269, 271, 273, 275, 277], [413, 415, 417, 419, 421, 423, 425, 427, 429, 431, 433, 435, 437, 439, 441, 443], [305, 307, 309], [321], [341, 343, 345, 347, 349, 351, 353, 355], [374, 376, 378, 380, 382, 384, 386, 388], [457, 459, 461, 463], [732, 734, 736, 738, 740], [872, 874, 876, 878, 880, 882, 884, 886, 888, 890], [1139, 1141, 1143, 1145, 1147, 1149, 1151, 1153, 1155, 1157, 1159, 1161, 1163, 1165, 1167, 1169, 1171, 1173, 1175, 1177, 1179, 1181, 1183, 1185, 1187, 1189, 1191, 1193, 1195, 1197, 1199, 1201, 1203, 1205, 1207, 1209, 1211, 1213, 1215, 1217, 1219, 1221, 1223, 1225, 1227, 1229, 1231, 1233, 1235, 1237, 1239, 1241, 1243, 1245, 1247, 1249, 1251, 1253, 1255, 1257, 1259, 1261, 1263, 1265]]
theorem gt_lay : (List.range 14).all (fun ci => match gt_cl[ci]? with
  | some (C, T, N) => (List.range N).all (fun k => gt_w ((gt_layI.getD ci []).getD k 9999) (u_lay C T k) && (decide (parseFieldDescriptor (T k).2.2.1 = some (gt_tyF ci k)) && (List.range N).all fun b => Nat.beq k b || decide ((T k).2.1 ≠ (T b).2.1)))
  | none => false) = true := by decide +kernel
