/-! the words that a call may hand on -/
def TB : List Cond := lw_tbl.filter goodWord
theorem tb_good : ∀ w ∈ TB, (w.onTables && w.keeps) = true ∨ ∃ ty, w = .arrayClass ty := fun w h => good_of_word (List.mem_filter.mp h).2
theorem tb_i {w : Cond} (i : Nat) (h : lw_tbl[i]? = some w) (hg : goodWord w = true) : w ∈ TB := List.mem_filter.mpr ⟨List.mem_of_getElem? h, hg⟩
theorem tb_code {y : MethodName} {cc : ByteArray} {n : Nat} {ret : Option FieldType} (h : Cond.code y cc n ret ∈ TB) : GoodIn TB (.code y cc n ret :: TB) := by
  intro w hw
  rcases List.mem_cons.mp hw with rfl | hw
  · exact ⟨h, tb_good _ h⟩
  · exact ⟨hw, tb_good _ hw⟩
/-! the memory: how many cells there are; ints, longs, references by cell and place. The shape of each cell is known ahead: (kind, how many) -/
abbrev Mu : Type := Nat × (Nat → Nat → Int32) × (Nat → Nat → Int64) × (Nat → Nat → Option Nat)
def shG : List (Nat × Nat) := [(0, 10), (8, 5), (8, 7), (8, 7), (8, 7), (8, 7)]
def shT : List (Nat × Nat) := [(6, 8), (3, 3), (9, 200), (8, 3)] ++ shG ++ shG ++ [(4, 3), (11, 8)] ++ shG ++ shG ++ shG ++ shG ++ shG ++ shG ++ shG ++ shG ++ [(4, 3), (11, 2)] ++ shG ++ shG ++ [(5, 4), (8, 6), (8, 6), (10, 6), (2, 7), (8, 5), (10, 5), (8, 8), (8, 8), (8, 7), (8, 7), (1, 3), (8, 9), (7, 18), (8, 200), (8, 56), (8, 56), (8, 21), (8, 168), (8, 42), (8, 18), (8, 21), (8, 7), (8, 7), (8, 8), (8, 8), (8, 21)]
def sh (c : Nat) : Nat × Nat := shT.getD c (99, 0)
def m2 {α : Type} (f : Nat → Nat → α) (c k : Nat) (x : α) : Nat → Nat → α := fun c' k' => if c' = c ∧ k' = k then x else f c' k'
theorem m2_ne {α : Type} {f : Nat → Nat → α} {c k : Nat} {x : α} {c' : Nat} (h : c' ≠ c) : m2 f c k x c' = f c' := by
  funext k'
  simp [m2, h]
theorem m2_at {α : Type} {f : Nat → Nat → α} {c k : Nat} {x : α} : m2 f c k x c k = x := by simp [m2]
theorem m2_nk {α : Type} {f : Nat → Nat → α} {c k : Nat} {x : α} {k' : Nat} (h : k' ≠ k) : m2 f c k x c k' = f c k' := by simp [m2, h]
def si (μ : Mu) (c k : Nat) (x : Int32) : Mu := (μ.1, m2 μ.2.1 c k x, μ.2.2.1, μ.2.2.2)
def sl (μ : Mu) (c k : Nat) (x : Int64) : Mu := (μ.1, μ.2.1, m2 μ.2.2.1 c k x, μ.2.2.2)
def sr (μ : Mu) (c k : Nat) (x : Option Nat) : Mu := (μ.1, μ.2.1, μ.2.2.1, m2 μ.2.2.2 c k x)
/-- a new cell: all 0, all null -/
def sn (μ : Mu) : Mu := (μ.1 + 1, (fun c k => if c = μ.1 then 0 else μ.2.1 c k), (fun c k => if c = μ.1 then 0 else μ.2.2.1 c k), (fun c k => if c = μ.1 then none else μ.2.2.2 c k))
abbrev isO (t a : Nat) (μ : Mu) : Prop := a < μ.1 ∧ (sh a).1 = t
def inb (i : Int32) (n : Nat) : Bool := !(decide (i < 0) || decide (n ≤ i.toNatClampNeg))
theorem inb_p {i : Int32} {n : Nat} (h : inb i n = true) : vp_in i n := by
  intro q
  rcases q with q | q <;> simp [inb, q] at h
def grd {α : Type} (c : Prop) [Decidable c] (o : Option α) : Option α := if c then o else none
theorem grd_p {α : Type} {c : Prop} [Decidable c] {o : Option α} {r : α} (h : grd c o = some r) : c := by
  by_cases hc : c
  · exact hc
  · simp [grd, hc] at h
theorem grd_v {α : Type} {c : Prop} [Decidable c] {o : Option α} {r : α} (h : grd c o = some r) : o = some r := by
  have hc := grd_p h
  rwa [grd, if_pos hc] at h
def gI (t a k : Nat) (μ : Mu) : Option Int32 := grd (isO t a μ) (some (μ.2.1 a k))
def gL (t a k : Nat) (μ : Mu) : Option Int64 := grd (isO t a μ) (some (μ.2.2.1 a k))
def gR (t a k : Nat) (μ : Mu) : Option Nat := grd (isO t a μ) (μ.2.2.2 a k)
def pI (t a k : Nat) (x : Int32) (μ : Mu) : Option Mu := grd (isO t a μ) (some (si μ a k x))
def pL (t a k : Nat) (x : Int64) (μ : Mu) : Option Mu := grd (isO t a μ) (some (sl μ a k x))
def pR (t a k : Nat) (x : Nat) (μ : Mu) : Option Mu := grd (isO t a μ) (some (sr μ a k (some x)))
def aI (t a : Nat) (i : Int32) (μ : Mu) : Option Int32 := grd (isO t a μ ∧ inb i (sh a).2 = true) (some (μ.2.1 a i.toNatClampNeg))
def aR (a : Nat) (i : Int32) (μ : Mu) : Option Nat := grd (isO 11 a μ ∧ inb i (sh a).2 = true) (μ.2.2.2 a i.toNatClampNeg)
def tyA (t : Nat) : FieldType := if t = 8 then .int else if t = 9 then .char else .boolean
def bI (t a : Nat) (i x : Int32) (μ : Mu) : Option Mu := grd (isO t a μ ∧ inb i (sh a).2 = true) (some (si μ a i.toNatClampNeg (vp_nar (tyA t) x)))
def bR (a : Nat) (i : Int32) (x : Nat) (μ : Mu) : Option Mu := grd ((isO 11 a μ ∧ inb i (sh a).2 = true) ∧ isO 0 x μ) (some (sr μ a i.toNatClampNeg (some x)))
def aN (t a : Nat) (μ : Mu) : Option Int32 := grd (isO t a μ) (some (Int32.ofNat (sh a).2))
def nO (t : Nat) (μ : Mu) : Option (Nat × Mu) := grd ((sh μ.1).1 = t) (some (μ.1, sn μ))
def nA (t : Nat) (n : Int32) (μ : Mu) : Option (Nat × Mu) := grd ((sh μ.1).1 = t ∧ ¬ n < 0 ∧ n.toNatClampNeg = (sh μ.1).2 ∧ (sh μ.1).2 ≤ 1000) (some (μ.1, sn μ))
theorem bnd {α β : Type} {o : Option α} {f : α → Option β} {r : β} (h : o.bind f = some r) : ∃ x, o = some x ∧ f x = some r := by
  cases o with
  | none => simp at h
  | some x => exact ⟨x, rfl, h⟩
/-! the classes -/
def kT (ci : Nat) : vw_C := vwCl.getD ci (RX0, TX0, 10)
def kF (ci : Nat) : Nat → FieldType := match ci with
  | 0 => tyX0
  | 1 => tyX1
  | 2 => tyX2
  | 3 => tyX3
  | 4 => tyX4
  | 5 => tyX5
  | 6 => tyX6
  | _ => tyX7
def ClOk (ci : Nat) : Prop := vwCl[ci]? = some (kT ci) ∧ (∀ w ∈ u_ws (kT ci).1 (kT ci).2.1 (kT ci).2.2, w ∈ TB) ∧ (∀ k, k < (kT ci).2.2 → parseFieldDescriptor ((kT ci).2.1 k).2.2.1 = some (kF ci k)) ∧ (∀ a, a < (kT ci).2.2 → ∀ b, b < (kT ci).2.2 → a ≠ b → ((kT ci).2.1 a).2.1 ≠ ((kT ci).2.1 b).2.1)
theorem clok0 : ClOk 0 := ⟨rfl, by decide +kernel, tyX0_ok, nmX0⟩
theorem clok1 : ClOk 1 := ⟨rfl, by decide +kernel, tyX1_ok, nmX1⟩
theorem clok2 : ClOk 2 := ⟨rfl, by decide +kernel, tyX2_ok, nmX2⟩
theorem clok3 : ClOk 3 := ⟨rfl, by decide +kernel, tyX3_ok, nmX3⟩
theorem clok4 : ClOk 4 := ⟨rfl, by decide +kernel, tyX4_ok, nmX4⟩
theorem clok5 : ClOk 5 := ⟨rfl, by decide +kernel, tyX5_ok, nmX5⟩
theorem clok6 : ClOk 6 := ⟨rfl, by decide +kernel, tyX6_ok, nmX6⟩
theorem clok7 : ClOk 7 := ⟨rfl, by decide +kernel, tyX7_ok, nmX7⟩
theorem clok {ci : Nat} (h : ci < 8) : ClOk ci := by
  match ci, h with
  | 0, _ => exact clok0
  | 1, _ => exact clok1
  | 2, _ => exact clok2
  | 3, _ => exact clok3
  | 4, _ => exact clok4
  | 5, _ => exact clok5
  | 6, _ => exact clok6
  | 7, _ => exact clok7
/-! the memory in the heap: G = (the classes' numbers, the array classes of int, char, boolean, Green; the first address) -/
abbrev Gm : Type := va_G × ClassId × ClassId × ClassId × ClassId × Nat
abbrev gB (G : Gm) : Nat := G.2.2.2.2.2
def fv (B : Nat) (μ : Mu) (c k : Nat) (ty : FieldType) : Value := match ty with
  | .long => .long (μ.2.2.1 c k)
  | .int => .int (μ.2.1 c k)
  | _ => va_rf ((μ.2.2.2 c k).map (fun a => B + a))
def fs (B : Nat) (μ : Mu) (c ci : Nat) : List Value := (List.range (kT ci).2.2).map (fun k => fv B μ c k (kF ci k))
def cellv (G : Gm) (μ : Mu) (c : Nat) : va_E :=
  if (sh c).1 = 8 then .inl (G.2.1, (sh c).2, .inl (μ.2.1 c))
  else if (sh c).1 = 9 then .inl (G.2.2.1, (sh c).2, .inl (μ.2.1 c))
  else if (sh c).1 = 10 then .inl (G.2.2.2.1, (sh c).2, .inl (μ.2.1 c))
  else if (sh c).1 = 11 then .inl (G.2.2.2.2.1, (sh c).2, .inr (.inr (.inr (.inr (fun k => (μ.2.2.2 c k).map (fun a => gB G + a))))))
  else .inr ((sh c).1, fs (gB G) μ c (sh c).1)
def wsOf (G : Gm) (μ : Mu) : va_W := (List.range μ.1).map (fun c => (gB G + c, cellv G μ c))
def tysOf (G : Gm) : List (ClassId × FieldType) := [(G.2.1, .int), (G.2.2.1, .char), (G.2.2.2.1, .boolean), (G.2.2.2.2.1, .object RX0)]
theorem ws_at {G : Gm} {μ : Mu} {c : Nat} (h : c < μ.1) : (wsOf G μ)[c]? = some (gB G + c, cellv G μ c) := by simp [wsOf, h]
theorem ws_of {G : Gm} {μ : Mu} {c : Nat} {q : Nat × va_E} (h : (wsOf G μ)[c]? = some q) : c < μ.1 ∧ q = (gB G + c, cellv G μ c) := by
  by_cases hc : c < μ.1
  · rw [ws_at hc] at h
    exact ⟨hc, (Option.some.inj h).symm⟩
  · simp [wsOf, hc] at h
theorem ws_D (G : Gm) (μ : Mu) : va_D (fun q => gB G ≤ q) (wsOf G μ) := by
  refine ⟨fun i j p q hi hj h => ?_, fun k q hk => ?_⟩
  · have h1 := (ws_of hi).2
    have h2 := (ws_of hj).2
    rw [h1, h2] at h
    simpa using h
  · rw [(ws_of hk).2]
    simp
theorem ws_set {G : Gm} {μ μ' : Mu} {c : Nat} {e : va_E} (hn : μ'.1 = μ.1) (ho : ∀ c', c' ≠ c → cellv G μ' c' = cellv G μ c') (he : e = cellv G μ' c) : (wsOf G μ).set c (gB G + c, e) = wsOf G μ' := by
  apply List.ext_getElem?
  intro k
  by_cases hk : k = c
  · subst hk
    by_cases hl : k < μ.1
    · rw [List.getElem?_set_self (by simp [wsOf, hl]), ws_at (by rw [hn]; exact hl), he]
    · simp [wsOf, hn, hl]
  · rw [List.getElem?_set_ne (Ne.symm hk)]
    by_cases hl : k < μ.1
    · rw [ws_at hl, ws_at (by rw [hn]; exact hl), ho k hk]
    · simp [wsOf, hn, hl]
theorem fs_get {B : Nat} {μ : Mu} {c ci k : Nat} (h : k < (kT ci).2.2) : (fs B μ c ci)[k]? = some (fv B μ c k (kF ci k)) := by simp [fs, h]
theorem fs_set {B : Nat} {μ μ' : Mu} {c ci k : Nat} {v : Value} (hk : fv B μ' c k (kF ci k) = v) (ho : ∀ j, j ≠ k → fv B μ' c j (kF ci j) = fv B μ c j (kF ci j)) : (fs B μ c ci).set k v = fs B μ' c ci := by
  apply List.ext_getElem?
  intro j
  by_cases hj : j = k
  · subst hj
    by_cases hl : j < (kT ci).2.2
    · rw [List.getElem?_set_self (by simp [fs, hl]), fs_get hl, hk]
    · simp [fs, hl]
  · rw [List.getElem?_set_ne (Ne.symm hj)]
    by_cases hl : j < (kT ci).2.2
    · rw [fs_get hl, fs_get hl, ho j hj]
    · simp [fs, hl]
theorem cell_o {G : Gm} {μ : Mu} {c ci : Nat} (h : (sh c).1 = ci) (hc : ci < 8) : cellv G μ c = .inr (ci, fs (gB G) μ c ci) := by
  subst h
  rw [cellv, if_neg (by omega), if_neg (by omega), if_neg (by omega), if_neg (by omega)]
theorem cell_8 {G : Gm} {μ : Mu} {c : Nat} (h : (sh c).1 = 8) : cellv G μ c = .inl (G.2.1, (sh c).2, .inl (μ.2.1 c)) := by rw [cellv, if_pos h]
theorem cell_9 {G : Gm} {μ : Mu} {c : Nat} (h : (sh c).1 = 9) : cellv G μ c = .inl (G.2.2.1, (sh c).2, .inl (μ.2.1 c)) := by rw [cellv, if_neg (by omega), if_pos h]
theorem cell_10 {G : Gm} {μ : Mu} {c : Nat} (h : (sh c).1 = 10) : cellv G μ c = .inl (G.2.2.2.1, (sh c).2, .inl (μ.2.1 c)) := by rw [cellv, if_neg (by omega), if_neg (by omega), if_pos h]
theorem cell_11 {G : Gm} {μ : Mu} {c : Nat} (h : (sh c).1 = 11) : cellv G μ c = .inl (G.2.2.2.2.1, (sh c).2, .inr (.inr (.inr (.inr (fun k => (μ.2.2.2 c k).map (fun a => gB G + a)))))) := by rw [cellv, if_neg (by omega), if_neg (by omega), if_neg (by omega), if_pos h]
theorem cell_si {G : Gm} {μ : Mu} {c k : Nat} {x : Int32} {c' : Nat} (h : c' ≠ c) : cellv G (si μ c k x) c' = cellv G μ c' := by
  simp only [cellv, fs, fv, si, m2_ne h]
theorem cell_sl {G : Gm} {μ : Mu} {c k : Nat} {x : Int64} {c' : Nat} (h : c' ≠ c) : cellv G (sl μ c k x) c' = cellv G μ c' := by
  simp only [cellv, fs, fv, sl, m2_ne h]
theorem cell_sr {G : Gm} {μ : Mu} {c k : Nat} {x : Option Nat} {c' : Nat} (h : c' ≠ c) : cellv G (sr μ c k x) c' = cellv G μ c' := by
  simp only [cellv, fs, fv, sr, m2_ne h]
def isRf (ty : FieldType) : Bool := match ty with
  | .array _ => true
  | .object _ => true
  | _ => false
theorem fv_rf {B : Nat} {μ : Mu} {c k : Nat} {ty : FieldType} (h : isRf ty = true) : fv B μ c k ty = va_rf ((μ.2.2.2 c k).map (fun a => B + a)) := by
  cases ty <;> first | rfl | simp [isRf] at h
theorem fv_si {B : Nat} {μ : Mu} {c k : Nat} {x : Int32} {j : Nat} {ty : FieldType} (h : j ≠ k) : fv B (si μ c k x) c j ty = fv B μ c j ty := by
  cases ty <;> simp only [fv, si, m2_nk h]
theorem fv_sl {B : Nat} {μ : Mu} {c k : Nat} {x : Int64} {j : Nat} {ty : FieldType} (h : j ≠ k) : fv B (sl μ c k x) c j ty = fv B μ c j ty := by
  cases ty <;> simp only [fv, sl, m2_nk h]
theorem fv_sr {B : Nat} {μ : Mu} {c k : Nat} {x : Option Nat} {j : Nat} {ty : FieldType} (h : j ≠ k) : fv B (sr μ c k x) c j ty = fv B μ c j ty := by
  cases ty <;> simp only [fv, sr, m2_nk h]
def Hp (G : Gm) (μ : Mu) (H : Heap) : Prop := va_P G.1 vwCl (wsOf G μ) H
abbrev nestW : Cond := .methodLinkNest "HourGreen$Green" 47 yX6_isWithin "HourGreen"
def Tt (G : Gm) (U : State) : Prop := va_K G.1 vwCl (tysOf G) U ∧ va_Nw nestW U ∧ va_AO RX0 U
theorem Tt.warm {G : Gm} {s U : State} (hW : s.WarmedH U.vm) (h : Tt G s) : Tt G U := ⟨va_K.moved hW.alike h.1, va_Nw.warmM hW h.2.1, va_AO.moved hW.alike h.2.2⟩
theorem Tt.same {G : Gm} {s U : State} (hv : s.vm = U.vm) (h : Tt G s) : Tt G U := ⟨va_K.moved (hv ▸ Vm.Alike.refl s.vm) h.1, va_Nw.same rfl hv h.2.1, va_AO.moved (hv ▸ Vm.Alike.refl s.vm) h.2.2⟩
abbrev fA (G : Gm) : Nat → Prop := fun q => gB G ≤ q
abbrev Pm (G : Gm) (avs : List Value) (μ : Mu) : Array Value → State → Prop := va_Pc avs (fun U => U.heap.size = gB G + μ.1 ∧ Hp G μ U.heap ∧ Tt G U)
abbrev Qm (G : Gm) (r : Option Value) (μ' : Mu) (mc : Nat) : Array Value → State → Outcome → State → Prop := fun _ st o t => o = .returned r ∧ Hp G μ' t.heap ∧ va_F (fA G) st t ∧ st.heap.size + mc = gB G + μ'.1
def Mt (G : Gm) (l : Launch) (y : MethodName) (cc : ByteArray) (maxL : Nat) (ret : Option FieldType) (lev mc ms : Nat) (avs : List Value) (μ : Mu) (r : Option Value) (μ' : Mu) : Prop :=
  Met l y (.code y cc maxL ret :: TB) { frames := lev, cells := mc, slots := ms, locals := 40 * lev } (Pm G avs μ) (Qm G r μ' mc) mc ms (fA G)
def Cx (G : Gm) (p : Program) (s : State) (m : MethodId) (args : Array Value) (meth : Method) (c : Code) (cc : ByteArray) (nL : Nat) (own : String) (ret : Option FieldType) (nm : String) : Prop :=
  p.tables.exec = Jvm.exec ∧ c.code = cc ∧ c.maxLocals = nL ∧ s.vm.findClass own = some m.cls ∧ (∀ w ∈ TB, w.before args s = true) ∧ Tt G s ∧ meth.locks = false ∧ gB G ≤ s.heap.size ∧ meth.sig.returnType = ret ∧ meth.name = nm
/-- the machine, at pc with these locals, this stack and this memory, comes to Q -/
def Lt (G : Gm) (p : Program) (l : Launch) (e : Env) (R : Room) (s : State) (m : MethodId) (args : Array Value) (below : List Frame) (meth : Method) (c : Code) (cc : ByteArray) (nL : Nat) (own : String) (ret : Option FieldType) (nm : String) (Q : State → Prop) (cells slots pc : Nat) (lv : List (Nat × Value)) (st : List Value) (μ : Mu) : Prop :=
  Cx G p s m args meth c cc nL own ret nm → s.heap.size + cells = gB G + μ.1 → ∀ (H : Heap) (locs : List Loc) (ls : Array Slot), Hp G μ H → va_S (fA G) s.heap H locs → lv_has ls nL lv → W p l e R s m args below meth c H locs cells slots Q (F0 m pc ls st)
theorem Mt.of {G : Gm} {l : Launch} {y : MethodName} {cc : ByteArray} {maxL : Nat} {ret : Option FieldType} {lev mc ms : Nat} {avs : List Value} {μ : Mu} {r : Option Value} {μ' : Mu} (hy : plainName y.cls = true) (hn : (lg_sl avs).length ≤ maxL)
    (body : ∀ p e s m args below meth c, Lt G p l e { frames := lev, cells := mc, slots := ms, locals := 40 * lev } s m args below meth c cc maxL y.cls ret y.name (MQ below (Qm G r μ' mc) args s mc ms (fA G)) 0 0 0 (lv_args 0 avs) [] μ) : Mt G l y cc maxL ret lev mc ms avs μ r μ' := by
  refine Met.ofW (cc := cc) (maxL := maxL) (ret := ret) hy rfl ?_
  intro p e s m args below meth c s₁ B hml hv
  obtain ⟨rfl, hz, hH, hT⟩ := hv
  have hts := atoms_spec (ws := .code y cc maxL ret :: TB) B.pre
  have hl := lv_entry avs (n := maxL) hn
  rw [lg_entry_eq]
  exact body p e s m avs.toArray below meth c ⟨B.exec, B.bytes, hml, findClass_of_methodNamed B.named, fun w hw => hts w (List.mem_cons_of_mem _ hw), hT, B.notSynchronized, by omega, B.returns, (name_of_methodNamed B.named B.method).1⟩ hz s.heap [] _ hH va_S.rf hl
