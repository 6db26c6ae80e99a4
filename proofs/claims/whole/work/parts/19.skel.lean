def R_law : String := "HourGreenLaw"
def lw_P (b : Addr) (xs : List Int32) (args : Array Value) (s : State) : Prop := args = #[.ref b] ∧ s.IntsAt b xs ∧ xs.length ≤ 320 ∧ (Jvm.Cond.and given_1 narrow_1).before args s = true
def lw_Q (_ : Array Value) (s : State) (o : Outcome) (t : State) : Prop := o = .returned (some (.int 1)) ∧ Framed s o t [] 600000 7302250
def lw_Z (below : List Frame) (a : Array Value) (s : State) : State → Prop := fun t => ∃ o, t.status = .running ∧ Ended t below o ∧ lw_Q a s o t
/-- the law's own end, with 1 on the stack, nothing written that was there before, its room as the claim has it -/
theorem lw_ret {p : Program} {l : Launch} {e : Env} {s : State} {m : MethodId} {below : List Frame} {meth : Method} {c : Code} {b : Nat} (hx : p.tables.exec = Jvm.exec) (hb : c.code = code) (hr : meth.sig.returnType = ret) (hlocks : meth.locks = false) {pc : Nat} {H : Heap} {ls : Array Slot} (hdg : decode code pc = .ok (.ireturn, 1)) : W p l e room_1 s m #[Value.ref b] below meth c H [] 600000 7302250 (lw_Z below #[Value.ref b] s) (F0 m pc ls [.int 1]) := by
  intro T hT X
  obtain ⟨fs, hret, hrun, hended, hW, hframe⟩ := X.leave (v := some (.int 1)) (hlocks := hlocks) (fun h => by rw [hr] at h; cases h)
  have hmeth' : T.vm.method? m = some meth := X.method'
  refine ⟨T.setFrames fs, ?_, .returned (some (.int 1)), hrun, hended, rfl, ⟨_, rfl⟩, hW, hframe⟩
  jvm_step X.here [X.here.top, hx, hb, hdg, hmeth', hr, ret, narrow_b1]
  (try refine ⟨rfl, ?_⟩); (try refine ⟨rfl, ?_⟩)
  first | (intro acts; rw [hret _ acts rfl rfl rfl]) | rw [hret _ _ rfl rfl rfl]
  exact Steps.refl _
/-- what holds at the law's entry: the machine, the code, the tables' words (any of lw_tbl by 'hts w (by decide +kernel)'), the script of L ints xs at the cell b, what the Statement gives of the start (any of its parts by flat_of_before) -/
def lw_At (p : Program) (s : State) (m : MethodId) (meth : Method) (c : Code) (b L : Nat) (xs : Nat → Int32) : Prop :=
  p.tables.exec = Jvm.exec ∧ c.code = code ∧ meth.sig.returnType = ret ∧ c.maxLocals = 4 ∧ s.vm.findClass R_law = some m.cls ∧ (∀ w ∈ lw_tbl, w.before #[Value.ref b] s = true) ∧ va_X b L xs s s.heap ∧ b < s.heap.size ∧ meth.locks = false ∧ (Jvm.Cond.and given_1 narrow_1).before #[Value.ref b] s = true
def sX (xs : Nat → Int32) (N : Nat) (i : Int32) : Option Int32 := grd (inb i N = true) (some (xs i.toNatClampNeg))
theorem law_no {μ : Mu} {r : Int32 × Mu} {X : Prop} (hf : some ((0 : Int32), μ) = some r) (hr : r.1 = 1) : X := by
  cases hf
  have h : (0 : Int32) = 1 := hr
  exact absurd h (by decide)
section LW
variable {G : Gm} {p : Program} {l : Launch} {e : Env} {R : Room} {s : State} {m : MethodId} {args : Array Value} {below : List Frame} {meth : Method} {c : Code} {cc : ByteArray} {nL : Nat} {own : String} {rt : Option FieldType} {nm : String} {Q : State → Prop} {cells slots pc : Nat} {lv : List (Nat × Value)} {st rest : List Value} {μ μ' : Mu} {b N : Nat} {xs : Nat → Int32}
theorem x_slen (hX : va_X b N xs s s.heap) (hbl : b < s.heap.size) (hG : gB G = s.heap.size) (hd : decode cc pc = .ok (.arraylength, 1)) (k : Lt G p l e R s m args below meth c cc nL own rt nm Q cells slots (pc + 1) lv (.int (nI N) :: st) μ) : Lt G p l e R s m args below meth c cc nL own rt nm Q cells slots pc lv (.ref b :: st) μ := fun C z H L ls h1 h2 h3 =>
  va_slen C.1 C.2.1 hX hbl (fun h => by have h : gB G ≤ b := h; omega) h2 hd (k C z H L ls h1 h2 h3)
theorem x_sld {i x : Int32} (hg : sX xs N i = some x) (hX : va_X b N xs s s.heap) (hbl : b < s.heap.size) (hG : gB G = s.heap.size) (hd : decode cc pc = .ok (.iaload, 1)) (k : Lt G p l e R s m args below meth c cc nL own rt nm Q cells slots (pc + 1) lv (.int x :: st) μ) : Lt G p l e R s m args below meth c cc nL own rt nm Q cells slots pc lv (.int i :: .ref b :: st) μ := by
  intro C z H L ls h1 h2 h3
  have hi := inb_p (grd_p hg)
  have hx := Option.some.inj (grd_v hg)
  subst hx
  exact va_sld C.1 C.2.1 hX hbl (fun h => by have h : gB G ≤ b := h; omega) h2 hi hd (k C z H L ls h1 h2 h3)
theorem x_callIK {i a : Nat} {y : MethodName} {bytes : ByteArray} {maxL' lev mc ms : Nat} {aK aV : Nat} (hk : Sk (fA G) aK aV s s.heap) (hkR : vk_R RX6 59 fiT aK s) (hM : MtK aK aV G l y bytes maxL' none lev mc ms [.ref (gB G + a)] μ none μ') (hy : YW y bytes maxL' none 0) (hin : Cond.instanceMethod y ∈ TB) (hyn : y.name = "<init>") (hlk : Cond.methodLink own i y ∈ TB)
    (hst : st = .ref (gB G + a) :: rest) (hrm : (rest.map fun v => v.category).sum ≤ 8) (hR : lev + 1 ≤ R.frames ∧ 8 + (maxL' + 11) + 40 * lev ≤ R.locals) (hf : cells + mc ≤ R.cells ∧ slots + ms ≤ R.slots) (hd : decode cc pc = .ok (.invokespecial i, 3))
    (kk : Lt G p l e R s m args below meth c cc nL own rt nm Q (cells + mc) (slots + ms) (pc + 3) lv rest μ') : Lt G p l e R s m args below meth c cc nL own rt nm Q cells slots pc lv st μ := by
  intro C z H L ls h1 h2 h3
  refine W_sz (fun hsz => ?_)
  have hH := Hp_sz C.2.2.2.2.2.2.2.1 z h1 h2 hsz
  have ht := C.2.2.2.2.1
  have hbl : FrameBlind (PmK aK aV G [.ref (gB G + a)] μ) := fun A U g mk q => ⟨q.1, ⟨q.2.1.1, q.2.1.2.1, q.2.1.2.2.same rfl⟩, Sk.moved (u := U) (U := U.calling g mk A) (Vm.Alike.refl U.vm) q.2.2.1, vk_R.same (u := U) rfl q.2.2.2⟩
  refine x_after (rm0 := 0) (pc' := 0) C z hH h2 h3 (va_runI (bytes := bytes) (maxL := maxL') (Ts := TB) (own := own) (nL := nL) (As := []) ⟨C.1, C.2.1, C.2.2.1, C.2.2.2.1, ht⟩ hM ?_ ⟨hbl, fun U hU hW => ⟨rfl, ⟨by rw [hU]; exact hH, by rw [hU]; exact h1, C.2.2.2.2.2.1.warm hW⟩, by rw [hU]; exact (hk.kept h2.2.1).moved hW.alike, hkR.warm hW⟩⟩ rfl rfl h3.1 hst (lv_room hrm) hd hf) kk
  exact ⟨callB_of 0 ht (tb_code hy.1) rfl rfl rfl (ht _ hy.2.1) (ht _ hlk) hy.2.2 hR, hyn, ht _ hin⟩
theorem y_lawret (hG : gB G = s.heap.size) (hd : decode cL_law pc = .ok (.ireturn, 1)) : Lt G p l e room_1 s m #[.ref b] below meth c cL_law 4 RL ret meth.name (lw_Z below #[.ref b] s) 107 3534 pc lv [.int 1] μ := by
  intro C z H L ls h1 h2 h3
  refine va_forget (fun q hq => by have h := h2.2.2 q hq; have h : gB G ≤ q.base := h; omega) ?_
  refine W.widen (k := 600000) (n := 7302250) (Nat.le_of_ble_eq_true rfl) (Nat.le_of_ble_eq_true rfl) ?_
  exact lw_ret C.1 C.2.1 C.2.2.2.2.2.2.2.2.1 C.2.2.2.2.2.2.1 hd
end LW
