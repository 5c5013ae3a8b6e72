/-! the places of the words on fields -/
def layT : List (List Nat) := [
  [303, 305, 307, 309, 311, 313, 315, 317, 319, 321, 323, 325],
  [275, 277, 279],
  [133, 135, 137, 139, 141, 143, 145],
  [238, 240, 242, 244, 246, 248, 250, 252, 254, 256, 258],
  [341, 343],
  [111, 113, 115, 117],
  [364, 366, 368, 370, 372, 374, 376, 378, 380],
  [67, 69, 71, 73, 75, 77, 79, 81, 83, 85, 87, 89, 91],
  [185, 187, 189, 191, 193, 195, 197],
  [163, 165, 167, 169, 171],
  [399, 401, 403, 405],
  [425, 427, 429, 431, 433, 435, 437, 439, 441, 443, 445, 447, 449, 451, 453, 455, 457],
  [1204, 1206, 1208, 1210, 1212, 1214, 1216, 1218, 1220, 1222, 1224, 1226, 1228, 1230, 1232, 1234, 1236, 1238, 1240, 1242, 1244, 1246, 1248, 1250, 1252, 1254, 1256, 1258, 1260, 1262, 1264, 1266, 1268, 1270, 1272, 1274, 1276, 1278, 1280, 1282, 1284, 1286, 1288, 1290, 1292, 1294, 1296, 1298, 1300, 1302, 1304, 1306, 1308, 1310, 1312, 1314, 1316, 1318, 1320, 1322, 1324, 1326, 1328, 1330, 1332, 1334, 1336, 1338, 1340, 1342, 1344, 1346, 1348, 1350, 1352, 1354, 1356, 1358, 1360, 1362, 1364, 1366, 1368, 1370, 1372, 1374, 1376, 1378, 1380, 1382, 1384, 1386, 1388, 1390]
  ]
def layW (c k : Nat) : Option Cond := at? ((layT.getD c []).getD k 9999)
set_option maxRecDepth 100000 in
theorem lay_all : (List.range 13).all (fun c => (List.range (cN c)).all (fun k => decide (layW c k = some (u_lay (cst c) (cT c) k)))) = true := by decide +kernel
set_option maxRecDepth 100000 in
theorem cT1_all : (List.range 13).all (fun c => (List.range (cN c)).all (fun k => decide ((cT c k).1 = cst c))) = true := by decide +kernel
def cty (c : Nat) : Nat → FieldType := ([tyX0, tyX1, tyX2, tyX3, tyX4, tyX5, tyX6, tyX7, tyX8, tyX9, tyX10, tyX11, tyX12] : List (Nat → FieldType)).getD c (fun _ => .int)
set_option maxRecDepth 100000 in
theorem ftk_all : (List.range 13).all (fun c => (List.range (cN c)).all (fun k => decide ((ftk c k = 0 ∧ cty c k = .int) ∨ (ftk c k = 1 ∧ cty c k = .boolean) ∨ (ftk c k = 3 ∧ (match cty c k with | .object _ => true | .array _ => true | _ => false) = true)))) = true := by decide +kernel
set_option maxRecDepth 100000 in
theorem fin_all : (List.range 13).all (fun c => (List.range (cN c)).all (fun k => fin c k == (cT c k).2.2.2)) = true := by decide +kernel
theorem rg2 {f : Nat → Nat → Bool} (h : (List.range 13).all (fun c => (List.range (cN c)).all (f c)) = true) {c k : Nat} (hc : c < 13) (hk : k < cN c) : f c k = true :=
  List.all_eq_true.mp (List.all_eq_true.mp h c (List.mem_range.mpr hc)) k (List.mem_range.mpr hk)
theorem lt13 {P : Nat → Prop} (h0 : P 0) (h1 : P 1) (h2 : P 2) (h3 : P 3) (h4 : P 4) (h5 : P 5) (h6 : P 6) (h7 : P 7) (h8 : P 8) (h9 : P 9) (h10 : P 10) (h11 : P 11) (h12 : P 12) : ∀ c, c < 13 → P c := by
  intro c hc
  match c, hc with
  | 0, _ => exact h0
  | 1, _ => exact h1
  | 2, _ => exact h2
  | 3, _ => exact h3
  | 4, _ => exact h4
  | 5, _ => exact h5
  | 6, _ => exact h6
  | 7, _ => exact h7
  | 8, _ => exact h8
  | 9, _ => exact h9
  | 10, _ => exact h10
  | 11, _ => exact h11
  | 12, _ => exact h12
  | n + 13, h => exact absurd h (by omega)
theorem mcl_at : ∀ c, c < 13 → mcl[c]? = some (cst c, cT c, cN c) := lt13 rfl rfl rfl rfl rfl rfl rfl rfl rfl rfl rfl rfl rfl
theorem cty_ok : ∀ c, c < 13 → ∀ k, k < cN c → parseFieldDescriptor (cT c k).2.2.1 = some (cty c k) := lt13 tyX0_ok tyX1_ok tyX2_ok tyX3_ok tyX4_ok tyX5_ok tyX6_ok tyX7_ok tyX8_ok tyX9_ok tyX10_ok tyX11_ok tyX12_ok
theorem cnm_ok : ∀ c, c < 13 → ∀ a, a < cN c → ∀ b, b < cN c → a ≠ b → (cT c a).2.1 ≠ (cT c b).2.1 := lt13 nmX0 nmX1 nmX2 nmX3 nmX4 nmX5 nmX6 nmX7 nmX8 nmX9 nmX10 nmX11 nmX12
theorem lays_in {c : Nat} (hc : c < 13) : ∀ w ∈ u_ws (cst c) (cT c) (cN c), w ∈ TT := by
  intro w hw
  obtain ⟨k, hk, rfl⟩ := List.mem_map.mp hw
  have h := of_decide_eq_true (rg2 lay_all hc (List.mem_range.mp hk))
  exact tt_in (tb_in (at_in h)) (by unfold u_lay; split <;> rfl)
-- what the tables say, once for all
def isNW : Cond → Bool
  | .fieldLinkNest _ _ _ _ _ _ => true
  | .methodLinkNest _ _ _ _ => true
  | .arrayOver (.object _) => true
  | .arrayOver (.array _) => true
  | _ => false
theorem aoA_moved {t : FieldType} {u U : State} (hvm : u.vm.Alike U.vm) (h : va_Nw (.arrayOver (.array t)) u) : va_Nw (.arrayOver (.array t)) U := by
  obtain ⟨comp, c, k, h1, h2, h3, h4, h5⟩ := arrayOverA_spec h
  obtain ⟨k', hk', he⟩ := hvm.2.2 _ _ h3
  have hi : (U.vm.classes.findIdx? fun (x : Class) => match x.kind with | .array component _ => component == comp | _ => false) = some c := by
    have e1 := va_idx_bare U.vm comp
    have e0 := va_idx_bare u.vm comp
    have eb : u.vm.bare = U.vm.bare := by first | exact hvm.bare_eq | exact hvm.bare_eq.symm
    rw [eb] at e0
    exact e1.symm.trans (e0.trans h2)
  have hkind : k'.kind = .array comp (.array t) := by rw [he]; exact h4
  have f1 : U.vm.findClass (FieldType.array t).toString = some comp := by rw [hvm.findClass]; exact h1
  have f2 : U.vm.findClass ("[" ++ (FieldType.array t).toString) = some c := by rw [hvm.findClass]; exact h5
  unfold va_Nw Cond.before Cond.holds
  simp only [Cond.value]
  rw [f1, Option.bind_some]
  refine (congrArg (fun o : Option Nat => (o.bind (fun c => (U.vm.classes[c]?).map fun (k : Class) => match k.kind with | .array _ ty => decide (ty = FieldType.array t) && decide (U.vm.findClass ("[" ++ (FieldType.array t).toString) = some c) | _ => false) == some true)) hi).trans ?_
  simp [hk', hkind, f2]
def KK (G : GG) (U : State) : Prop := (∀ c, c < 13 → u_Kn U (cst c) (cT c) (cN c) (gC G c) (gI G c)) ∧ (∀ e, okE e → ArrOfT U (gA G e) (ety e) ∧ va_RA U (gA G e) (ety e)) ∧ (∀ w ∈ tables_1, isNW w = true → va_Nw w U) ∧ ∀ q ∈ strW, vk_R q.1 q.2.1 q.2.2.1 (gT G q.2.2.2.1) U
theorem KK.warm {G : GG} {s U : State} (hW : s.WarmedH U.vm) (h : KK G s) : KK G U := by
  have hvm := hW.alike
  refine ⟨fun c hc => u_Kn_moved hvm (h.1 c hc), fun e he => ⟨arrOfT_moved hvm (h.2.1 e he).1, (h.2.1 e he).2.moved hvm⟩, fun w hw hn => ?_, fun q hq => (h.2.2.2 q hq).warm hW⟩
  have h0 := h.2.2.1 w hw hn
  match w, hn, h0 with
  | .fieldLinkNest _ _ _ _ _ _, _, h0 => exact va_Nw.warmF hW h0
  | .methodLinkNest _ _ _ _, _, h0 => exact va_Nw.warmM hW h0
  | .arrayOver (.object _), _, h0 => exact va_AO.moved hvm h0
  | .arrayOver (.array _), _, h0 => exact aoA_moved hvm h0
theorem KK.same {G : GG} {s U : State} (hv : U.vm = s.vm) (h : KK G s) : KK G U := h.warm (by rw [hv]; exact State.WarmedH.refl s)
theorem KK.va {G : GG} {s : State} (h : KK G s) : va_K (gC G, gI G) mcl [] s := by
  refine ⟨fun c q hq => ?_, fun k q hq => by simp at hq⟩
  have hc : c < 13 := (List.getElem?_eq_some_iff.mp hq).1
  rw [mcl_at c hc] at hq
  cases hq
  exact h.1 c hc
/-- the cells that were there before: Strings, the three arrays, two statics, the script -/
def Old (G : GG) (U : State) (H : Heap) : Prop :=
  (∃ adV, vk_S 24 (litB.map List.length) (litB.map (fun b => b.map Int32.ofInt)) (gT G) adV (fun q => gB G ≤ q) U H) ∧
  (∀ i, i < 3 → va_T .int (gR G i) 8 (fun j => .int (Int32.ofInt (rom i j))) (fun q => gB G ≤ q) U H ∧ va_Z "FaceRows$Head" (["LEAST", "MOST", "USUAL"].getD i "") "[I" (.ref (gR G i)) (fun q => gB G ≤ q) U H) ∧
  va_Z "java/lang/String" "COMPACT_STRINGS" "Z" (.int 1) (fun q => gB G ≤ q) U H ∧ va_Zq "jdk/internal/util/Preconditions" "SIOOBE_FORMATTER" "Ljava/util/function/BiFunction;" (fun q => gB G ≤ q) U H ∧
  (va_X (gS G) (gL G) (gX G) U H ∧ gS G < gB G) ∧ gB G ≤ H.size
theorem Old.moved {G : GG} {u U : State} {H : Heap} (hvm : u.vm.Alike U.vm) (h : Old G u H) : Old G U H := by
  obtain ⟨⟨adV, h1⟩, h2, h3, h4, h5, h6⟩ := h
  exact ⟨⟨adV, h1.moved hvm⟩, fun i hi => ⟨(h2 i hi).1.moved hvm, (h2 i hi).2.moved hvm⟩, h3.moved hvm, h4.moved hvm, ⟨h5.1.moved hvm, h5.2⟩, h6⟩
theorem Old.kept {G : GG} {U : State} {H H1 : Heap} (h : Old G U H) (hz : H.size ≤ H1.size) (hq : ∀ a : Nat, a < H.size → ¬ gB G ≤ a → H1[a]? = H[a]?) : Old G U H1 := by
  obtain ⟨⟨adV, h1⟩, h2, h3, h4, h5, h6⟩ := h
  exact ⟨⟨adV, h1.kept hq⟩, fun i hi => ⟨(h2 i hi).1.kept hq, (h2 i hi).2.kept hq⟩, h3.kept hq, h4.kept hq, ⟨h5.1.kept (hq _ (by omega) (by omega)), h5.2⟩, Nat.le_trans h6 hz⟩
/-- the heap of the small machine, and the script in it -/
def Rp (G : GG) (h : MS) (H : Heap) : Prop := Rep G h H ∧ ∀ j, j < gL G → h.1 rSCR (gL G) j = (gX G j).toInt
/-- what holds in a method's frame all along -/
def Cx (G : GG) (p : Program) (R : Room) (s : State) (m : MethodId) (args : Array Value) (meth : Method) (c : Code) (y d : Nat) : Prop :=
  p.tables.exec = Jvm.exec ∧ c.code = cod y ∧ c.maxLocals = mxl y ∧ s.vm.findClass (onm (own y)) = some m.cls ∧ (∀ w ∈ TT, w.before args s = true) ∧ (knd y = 2 → meth.name = "<init>") ∧ KK G s ∧ d ≤ R.frames ∧ 64 * d ≤ R.locals ∧ Old G s s.heap
def Dy (G : GG) (s : State) (y : Nat) (lsr : Array Slot) (ls st : List MV) (h : MS) (H : Heap) (locs : List Loc) : Prop :=
  Rp G h H ∧ va_S (fun q => gB G ≤ q) s.heap H locs ∧ LV G h.2.2.2 lsr ls (mxl y) ∧ ∀ v ∈ st, okv G h.2.2.2 v
