section XC
variable {G : Gm} {p : Program} {l : Launch} {e : Env} {R : Room} {s : State} {m : MethodId} {args : Array Value} {below : List Frame} {meth : Method} {c : Code} {cc : ByteArray} {nL : Nat} {own : String} {ret : Option FieldType} {nm : String} {Q : State → Prop} {cells slots pc : Nat} {lv lv' : List (Nat × Value)} {st rest : List Value} {μ μ' : Mu}
theorem x_z (k : s.heap.size + cells = gB G + μ.1 → Lt G p l e R s m args below meth c cc nL own ret nm Q cells slots pc lv st μ) : Lt G p l e R s m args below meth c cc nL own ret nm Q cells slots pc lv st μ := fun C z => k z C z
theorem x_wide {ms : Nat} (h : slots ≤ ms) (k : Lt G p l e R s m args below meth c cc nL own ret nm Q cells ms pc lv st μ) : Lt G p l e R s m args below meth c cc nL own ret nm Q cells slots pc lv st μ := fun C z H L ls h1 h2 h3 => W.widen (Nat.le_refl _) h (k C z H L ls h1 h2 h3)
theorem wO_i : Cond.instanceMethod objectInit ∈ TB := tb_i 62 (by decide +kernel) (by decide +kernel)
theorem wO_c : Cond.code objectInit ⟨#[0xb1]⟩ 1 none ∈ TB := tb_i 63 (by decide +kernel) (by decide +kernel)
theorem x_objInit {i x : Nat} (hlk : Cond.methodLink own i objectInit ∈ TB) (hfr : 1 ≤ R.frames) (hlo : (st.map fun v => v.category).sum + 12 ≤ R.locals) (hd : decode cc pc = .ok (.invokespecial i, 3)) (k : Lt G p l e R s m args below meth c cc nL own ret nm Q cells slots (pc + 3) lv st μ) : Lt G p l e R s m args below meth c cc nL own ret nm Q cells slots pc lv (.ref x :: st) μ := by
  intro C z H L ls h1 h2 h3
  have ht := C.2.2.2.2.1
  refine W.objInit C.1 C.2.1 C.2.2.2.1 (ht _ hlk) (ht _ wO_i) (ht _ wO_c) rfl (by rw [C.2.2.1]; exact h3.1) rfl hd hfr ?_ (k C z H L ls h1 h2 h3)
  show 2 * 0 + _ + 12 ≤ _
  omega
theorem cell_sn {c' : Nat} (h : c' ≠ μ.1) : cellv G (sn μ) c' = cellv G μ c' := by
  simp only [cellv, fs, fv, sn, if_neg h]
/-- the memory behind a new cell -/
theorem Hp_new {H H1 : Heap} (h1 : Hp G μ H) (hH : H.size = gB G + μ.1) (o1 : ∀ q, q < H.size → H1[q]? = H[q]?) (hn : va_at G.1 vwCl (gB G + μ.1, cellv G (sn μ) μ.1) H1) : Hp G (sn μ) H1 := by
  intro k q hk
  obtain ⟨hl, rfl⟩ := ws_of hk
  by_cases hq : k = μ.1
  · subst hq
    exact hn
  · have hl2 : k < μ.1 := by
      have : k < μ.1 + 1 := hl
      omega
    rw [cell_sn hq]
    exact (h1 k _ (ws_at hl2)).kept (o1 _ (by rw [hH]; omega))
theorem S_new {H H1 : Heap} {locs : List Loc} (h2 : va_S (fA G) s.heap H locs) (z1 : H.size ≤ H1.size) (o1 : ∀ q, q < H.size → H1[q]? = H[q]?) : va_S (fA G) s.heap H1 locs :=
  ⟨Nat.le_trans h2.1 z1, fun q a b => (o1 q (Nat.lt_of_lt_of_le a h2.1)).trans (h2.2.1 q a b), h2.2.2⟩
theorem kk0 : ∀ j, j < (kT 0).2.2 → (kF 0 j = .int ∨ kF 0 j = .long) ∨ isRf (kF 0 j) = true := by decide +kernel
theorem kk1 : ∀ j, j < (kT 1).2.2 → (kF 1 j = .int ∨ kF 1 j = .long) ∨ isRf (kF 1 j) = true := by decide +kernel
theorem kk2 : ∀ j, j < (kT 2).2.2 → (kF 2 j = .int ∨ kF 2 j = .long) ∨ isRf (kF 2 j) = true := by decide +kernel
theorem kk3 : ∀ j, j < (kT 3).2.2 → (kF 3 j = .int ∨ kF 3 j = .long) ∨ isRf (kF 3 j) = true := by decide +kernel
theorem kk4 : ∀ j, j < (kT 4).2.2 → (kF 4 j = .int ∨ kF 4 j = .long) ∨ isRf (kF 4 j) = true := by decide +kernel
theorem kk5 : ∀ j, j < (kT 5).2.2 → (kF 5 j = .int ∨ kF 5 j = .long) ∨ isRf (kF 5 j) = true := by decide +kernel
theorem kk6 : ∀ j, j < (kT 6).2.2 → (kF 6 j = .int ∨ kF 6 j = .long) ∨ isRf (kF 6 j) = true := by decide +kernel
theorem kk7 : ∀ j, j < (kT 7).2.2 → (kF 7 j = .int ∨ kF 7 j = .long) ∨ isRf (kF 7 j) = true := by decide +kernel
theorem nw_of {G : Gm} {μ : Mu} {j : Nat} {ty : FieldType} (h : (ty = .int ∨ ty = .long) ∨ isRf ty = true) : defaultValue ty = fv (gB G) (sn μ) μ.1 j ty := by
  rcases h with (rfl | rfl) | h
  · simp [fv, sn, defaultValue]
  · simp [fv, sn, defaultValue]
  · rw [fv_rf h]
    cases ty <;> first | (simp [isRf] at h; done) | simp [sn, va_rf, defaultValue]
theorem nw0 {G : Gm} {μ : Mu} : ∀ j, j < (kT 0).2.2 → defaultValue (kF 0 j) = fv (gB G) (sn μ) μ.1 j (kF 0 j) := by
  intro j hj
  have hk : (kF 0 j = .int ∨ kF 0 j = .long) ∨ isRf (kF 0 j) = true := kk0 j hj
  exact nw_of hk
theorem nw1 {G : Gm} {μ : Mu} : ∀ j, j < (kT 1).2.2 → defaultValue (kF 1 j) = fv (gB G) (sn μ) μ.1 j (kF 1 j) := by
  intro j hj
  have hk : (kF 1 j = .int ∨ kF 1 j = .long) ∨ isRf (kF 1 j) = true := kk1 j hj
  exact nw_of hk
theorem nw2 {G : Gm} {μ : Mu} : ∀ j, j < (kT 2).2.2 → defaultValue (kF 2 j) = fv (gB G) (sn μ) μ.1 j (kF 2 j) := by
  intro j hj
  have hk : (kF 2 j = .int ∨ kF 2 j = .long) ∨ isRf (kF 2 j) = true := kk2 j hj
  exact nw_of hk
theorem nw3 {G : Gm} {μ : Mu} : ∀ j, j < (kT 3).2.2 → defaultValue (kF 3 j) = fv (gB G) (sn μ) μ.1 j (kF 3 j) := by
  intro j hj
  have hk : (kF 3 j = .int ∨ kF 3 j = .long) ∨ isRf (kF 3 j) = true := kk3 j hj
  exact nw_of hk
theorem nw4 {G : Gm} {μ : Mu} : ∀ j, j < (kT 4).2.2 → defaultValue (kF 4 j) = fv (gB G) (sn μ) μ.1 j (kF 4 j) := by
  intro j hj
  have hk : (kF 4 j = .int ∨ kF 4 j = .long) ∨ isRf (kF 4 j) = true := kk4 j hj
  exact nw_of hk
theorem nw5 {G : Gm} {μ : Mu} : ∀ j, j < (kT 5).2.2 → defaultValue (kF 5 j) = fv (gB G) (sn μ) μ.1 j (kF 5 j) := by
  intro j hj
  have hk : (kF 5 j = .int ∨ kF 5 j = .long) ∨ isRf (kF 5 j) = true := kk5 j hj
  exact nw_of hk
theorem nw6 {G : Gm} {μ : Mu} : ∀ j, j < (kT 6).2.2 → defaultValue (kF 6 j) = fv (gB G) (sn μ) μ.1 j (kF 6 j) := by
  intro j hj
  have hk : (kF 6 j = .int ∨ kF 6 j = .long) ∨ isRf (kF 6 j) = true := kk6 j hj
  exact nw_of hk
theorem nw7 {G : Gm} {μ : Mu} : ∀ j, j < (kT 7).2.2 → defaultValue (kF 7 j) = fv (gB G) (sn μ) μ.1 j (kF 7 j) := by
  intro j hj
  have hk : (kF 7 j = .int ∨ kF 7 j = .long) ∨ isRf (kF 7 j) = true := kk7 j hj
  exact nw_of hk
theorem nwA {G : Gm} {μ : Mu} : ∀ {ci : Nat}, ci < 8 → ∀ j, j < (kT ci).2.2 → defaultValue (kF ci j) = fv (gB G) (sn μ) μ.1 j (kF ci j)
  | 0, _ => nw0
  | 1, _ => nw1
  | 2, _ => nw2
  | 3, _ => nw3
  | 4, _ => nw4
  | 5, _ => nw5
  | 6, _ => nw6
  | 7, _ => nw7
theorem x_new {i ci : Nat} {q : Nat × Mu} (hcl : Cond.classLink own i (kT ci).1 ∈ TB) (hin : Cond.instantiable (kT ci).1 (kT ci).2.2 ∈ TB) (hini : Cond.initialized (kT ci).1 ∈ TB) (hc : ci < 8) (hg : nO ci μ = some q) (hf : cells + 1 ≤ R.cells ∧ slots + (kT ci).2.2 ≤ R.slots) (hd : decode cc pc = .ok (.new i, 3))
    (kk : Lt G p l e R s m args below meth c cc nL own ret nm Q (cells + 1) (slots + (kT ci).2.2) (pc + 3) lv (.ref (gB G + q.1) :: st) q.2) : Lt G p l e R s m args below meth c cc nL own ret nm Q cells slots pc lv st μ := by
  intro C z H L ls h1 h2 h3
  refine W_sz (fun hsz => ?_)
  have hH := Hp_sz C.2.2.2.2.2.2.2.1 z h1 h2 hsz
  have ht := C.2.2.2.2.1
  have hs := grd_p hg
  have hq := Option.some.inj (grd_v hg)
  subst hq
  have hKn := C.2.2.2.2.2.1.1.1 ci _ (clok hc).1
  refine W.newcK C.1 C.2.1 C.2.2.2.1 (ht _ hcl) (ht _ hin) (ht _ hini) rfl hd hf.1 hf.2 hKn.2.1 rfl fun H1 kC hkC e1 z1 o1 => ?_
  rw [hH] at e1
  have hW := kk C (by show _ = gB G + (μ.1 + 1); omega) H1 L ls (Hp_new h1 hH o1 ?_) (S_new h2 (by omega) o1) h3
  · rw [hH]
    exact hW
  · rw [cell_o hs hc]
    refine ⟨_, (clok hc).1, (u_born (kF ci) ht (clok hc).2.1 hKn hkC e1 (clok hc).2.2.1).to ?_⟩
    intro j hj
    have hv : vp_V (fs (gB G) (sn μ) μ.1 ci) j = fv (gB G) (sn μ) μ.1 j (kF ci j) := by
      simp [vp_V, List.getD, fs_get hj]
    rw [hv]
    have hd0 := (clok hc).2.2.1 j hj
    exact nwA hc j hj
theorem x_newa8 {n : Int32} {q : Nat × Mu} (har : Cond.arrayClass (newarray.typeOf .int) ∈ TB) (hg : nA 8 n μ = some q) (hf : cells + 1 ≤ R.cells ∧ slots + (sh μ.1).2 ≤ R.slots) (hd : decode cc pc = .ok (.newarray .int, 2))
    (kk : Lt G p l e R s m args below meth c cc nL own ret nm Q (cells + 1) (slots + (sh μ.1).2) (pc + 2) lv (.ref (gB G + q.1) :: st) q.2) : Lt G p l e R s m args below meth c cc nL own ret nm Q cells slots pc lv (.int n :: st) μ := by
  intro C z H L ls h1 h2 h3
  refine W_sz (fun hsz => ?_)
  have hH := Hp_sz C.2.2.2.2.2.2.2.1 z h1 h2 hsz
  have ht := C.2.2.2.2.1
  obtain ⟨hs, hn, hN, h1000⟩ := grd_p hg
  have hq := Option.some.inj (grd_v hg)
  subst hq
  refine va_newaK (atype := .int) C.1 C.2.1 (ht _ har) rfl hd rfl hn hN (by simp only [newarray.typeOf, componentBytes]; omega) hf.1 hf.2 hH fun H1 cA e1 z1 o1 hAr hNm => ?_
  have hcA : cA = G.2.1 := Option.some.inj (hNm.symm.trans (C.2.2.2.2.2.1.1.2 0 _ rfl).2)
  subst hcA
  refine kk C (by show _ = gB G + (μ.1 + 1); omega) H1 L ls (Hp_new h1 hH (by rw [hH]; exact o1) ?_) (S_new h2 (by omega) (by rw [hH]; exact o1)) h3
  rw [cell_8 hs]
  show H1[gB G + μ.1]? = some (vp_cell _ _)
  rw [e1, vp_cell_i]
  simp [sn, newarray.typeOf, defaultValue]
theorem x_newa9 {n : Int32} {q : Nat × Mu} (har : Cond.arrayClass (newarray.typeOf .char) ∈ TB) (hg : nA 9 n μ = some q) (hf : cells + 1 ≤ R.cells ∧ slots + (sh μ.1).2 ≤ R.slots) (hd : decode cc pc = .ok (.newarray .char, 2))
    (kk : Lt G p l e R s m args below meth c cc nL own ret nm Q (cells + 1) (slots + (sh μ.1).2) (pc + 2) lv (.ref (gB G + q.1) :: st) q.2) : Lt G p l e R s m args below meth c cc nL own ret nm Q cells slots pc lv (.int n :: st) μ := by
  intro C z H L ls h1 h2 h3
  refine W_sz (fun hsz => ?_)
  have hH := Hp_sz C.2.2.2.2.2.2.2.1 z h1 h2 hsz
  have ht := C.2.2.2.2.1
  obtain ⟨hs, hn, hN, h1000⟩ := grd_p hg
  have hq := Option.some.inj (grd_v hg)
  subst hq
  refine va_newaK (atype := .char) C.1 C.2.1 (ht _ har) rfl hd rfl hn hN (by simp only [newarray.typeOf, componentBytes]; omega) hf.1 hf.2 hH fun H1 cA e1 z1 o1 hAr hNm => ?_
  have hcA : cA = G.2.2.1 := Option.some.inj (hNm.symm.trans (C.2.2.2.2.2.1.1.2 1 _ rfl).2)
  subst hcA
  refine kk C (by show _ = gB G + (μ.1 + 1); omega) H1 L ls (Hp_new h1 hH (by rw [hH]; exact o1) ?_) (S_new h2 (by omega) (by rw [hH]; exact o1)) h3
  rw [cell_9 hs]
  show H1[gB G + μ.1]? = some (vp_cell _ _)
  rw [e1, vp_cell_i]
  simp [sn, newarray.typeOf, defaultValue]
theorem x_newa10 {n : Int32} {q : Nat × Mu} (har : Cond.arrayClass (newarray.typeOf .boolean) ∈ TB) (hg : nA 10 n μ = some q) (hf : cells + 1 ≤ R.cells ∧ slots + (sh μ.1).2 ≤ R.slots) (hd : decode cc pc = .ok (.newarray .boolean, 2))
    (kk : Lt G p l e R s m args below meth c cc nL own ret nm Q (cells + 1) (slots + (sh μ.1).2) (pc + 2) lv (.ref (gB G + q.1) :: st) q.2) : Lt G p l e R s m args below meth c cc nL own ret nm Q cells slots pc lv (.int n :: st) μ := by
  intro C z H L ls h1 h2 h3
  refine W_sz (fun hsz => ?_)
  have hH := Hp_sz C.2.2.2.2.2.2.2.1 z h1 h2 hsz
  have ht := C.2.2.2.2.1
  obtain ⟨hs, hn, hN, h1000⟩ := grd_p hg
  have hq := Option.some.inj (grd_v hg)
  subst hq
  refine va_newaK (atype := .boolean) C.1 C.2.1 (ht _ har) rfl hd rfl hn hN (by simp only [newarray.typeOf, componentBytes]; omega) hf.1 hf.2 hH fun H1 cA e1 z1 o1 hAr hNm => ?_
  have hcA : cA = G.2.2.2.1 := Option.some.inj (hNm.symm.trans (C.2.2.2.2.2.1.1.2 2 _ rfl).2)
  subst hcA
  refine kk C (by show _ = gB G + (μ.1 + 1); omega) H1 L ls (Hp_new h1 hH (by rw [hH]; exact o1) ?_) (S_new h2 (by omega) (by rw [hH]; exact o1)) h3
  rw [cell_10 hs]
  show H1[gB G + μ.1]? = some (vp_cell _ _)
  rw [e1, vp_cell_i]
  simp [sn, newarray.typeOf, defaultValue]
theorem x_newq {i : Nat} {n : Int32} {q : Nat × Mu} (hcl : Cond.classLink own i RX0 ∈ TB) (hg : nA 11 n μ = some q) (hf : cells + 1 ≤ R.cells ∧ slots + (sh μ.1).2 ≤ R.slots) (hd : decode cc pc = .ok (.anewarray i, 3))
    (kk : Lt G p l e R s m args below meth c cc nL own ret nm Q (cells + 1) (slots + (sh μ.1).2) (pc + 3) lv (.ref (gB G + q.1) :: st) q.2) : Lt G p l e R s m args below meth c cc nL own ret nm Q cells slots pc lv (.int n :: st) μ := by
  intro C z H L ls h1 h2 h3
  refine W_sz (fun hsz => ?_)
  have hH := Hp_sz C.2.2.2.2.2.2.2.1 z h1 h2 hsz
  have ht := C.2.2.2.2.1
  obtain ⟨hs, hn, hN, h1000⟩ := grd_p hg
  have hq := Option.some.inj (grd_v hg)
  subst hq
  refine W.anew C.1 C.2.1 C.2.2.2.1 (ht _ hcl) (va_AO.use C.2.2.2.2.2.1.2.2) rfl hd rfl hn (by omega) hf.1 (by rw [hN]; exact hf.2) fun cA kA comp f1 f2 f3 f4 => ?_
  obtain ⟨kA', comp', g1, g2, g3, g4⟩ := (C.2.2.2.2.2.1.1.2 3 _ rfl).2
  have hcA : cA = G.2.2.2.2.1 := Option.some.inj (f1.symm.trans g4)
  subst hcA
  have o1 : ∀ q : Nat, q < H.size → (H.push ({ cls := G.2.2.2.2.1, slots := Array.replicate n.toNatClampNeg .null, vm := .none } : Cell))[q]? = H[q]? := fun q hq => by rw [Array.getElem?_push, if_neg (Nat.ne_of_lt hq)]
  have hW := kk C (by show _ = gB G + (μ.1 + 1); omega) _ L ls (Hp_new h1 hH o1 ?_) (S_new h2 (by simp) o1) h3
  · rw [hN] at hW
    rw [hN, hH]
    exact hW
  · rw [cell_11 hs]
    show (H.push _)[gB G + μ.1]? = some (vp_cell _ _)
    rw [← hH, Array.getElem?_push_size, arrV_new, vp_cell_q, hN]
    simp [sn, va_rf]
end XC
section XD
variable {G : Gm} {p : Program} {l : Launch} {e : Env} {R : Room} {s : State} {m : MethodId} {args : Array Value} {below : List Frame} {meth : Method} {c : Code} {cc : ByteArray} {nL : Nat} {own : String} {ret : Option FieldType} {nm : String} {Q : State → Prop} {cells slots pc : Nat} {lv lv' : List (Nat × Value)} {st rest : List Value} {μ μ' : Mu}
theorem x_newaL8 {n : Int32} {q : Nat × Mu} (N : Nat) (hN : n.toNatClampNeg = N) (har : Cond.arrayClass (newarray.typeOf .int) ∈ TB) (hg : nA 8 n μ = some q) (hf : cells + 1 ≤ R.cells ∧ slots + N ≤ R.slots) (hd : decode cc pc = .ok (.newarray .int, 2))
    (kk : Lt G p l e R s m args below meth c cc nL own ret nm Q (cells + 1) (slots + N) (pc + 2) lv (.ref (gB G + q.1) :: st) q.2) : Lt G p l e R s m args below meth c cc nL own ret nm Q cells slots pc lv (.int n :: st) μ := by
  have hz : N = (sh μ.1).2 := hN.symm.trans (grd_p hg).2.2.1
  subst hz
  exact x_newa8 har hg hf hd kk
theorem x_newaL9 {n : Int32} {q : Nat × Mu} (N : Nat) (hN : n.toNatClampNeg = N) (har : Cond.arrayClass (newarray.typeOf .char) ∈ TB) (hg : nA 9 n μ = some q) (hf : cells + 1 ≤ R.cells ∧ slots + N ≤ R.slots) (hd : decode cc pc = .ok (.newarray .char, 2))
    (kk : Lt G p l e R s m args below meth c cc nL own ret nm Q (cells + 1) (slots + N) (pc + 2) lv (.ref (gB G + q.1) :: st) q.2) : Lt G p l e R s m args below meth c cc nL own ret nm Q cells slots pc lv (.int n :: st) μ := by
  have hz : N = (sh μ.1).2 := hN.symm.trans (grd_p hg).2.2.1
  subst hz
  exact x_newa9 har hg hf hd kk
theorem x_newaL10 {n : Int32} {q : Nat × Mu} (N : Nat) (hN : n.toNatClampNeg = N) (har : Cond.arrayClass (newarray.typeOf .boolean) ∈ TB) (hg : nA 10 n μ = some q) (hf : cells + 1 ≤ R.cells ∧ slots + N ≤ R.slots) (hd : decode cc pc = .ok (.newarray .boolean, 2))
    (kk : Lt G p l e R s m args below meth c cc nL own ret nm Q (cells + 1) (slots + N) (pc + 2) lv (.ref (gB G + q.1) :: st) q.2) : Lt G p l e R s m args below meth c cc nL own ret nm Q cells slots pc lv (.int n :: st) μ := by
  have hz : N = (sh μ.1).2 := hN.symm.trans (grd_p hg).2.2.1
  subst hz
  exact x_newa10 har hg hf hd kk
theorem x_callIv {i a : Nat} {y : MethodName} {bytes : ByteArray} {maxL' lev mc ms : Nat} (As : List Value) (hM : Mt G l y bytes maxL' none lev mc ms (.ref (gB G + a) :: As) μ none μ') (hy : YW y bytes maxL' none As.length) (hin : Cond.instanceMethod y ∈ TB) (hyn : y.name = "<init>") (hlk : Cond.methodLink own i y ∈ TB)
    (hst : st = As.reverse ++ .ref (gB G + a) :: rest) (hrm : (rest.map fun v => v.category).sum ≤ 8) (hR : lev + 1 ≤ R.frames ∧ 8 + (maxL' + 11) + 40 * lev ≤ R.locals) (hf : cells + mc ≤ R.cells ∧ slots + ms ≤ R.slots) (hd : decode cc pc = .ok (.invokespecial i, 3))
    (kk : Lt G p l e R s m args below meth c cc nL own ret nm Q (cells + mc) (slots + ms) (pc + 3) lv rest μ') : Lt G p l e R s m args below meth c cc nL own ret nm Q cells slots pc lv st μ := x_callI As hM hy hin hyn hlk hst hrm hR hf hd kk
theorem y_vretC {mc ms : Nat} {r : Mu} (hret : ret = none) (hc : cells = mc) (hs : slots = ms) (hf : some μ = some r) (hd : decode cc pc = .ok (.return_, 1)) : Lt G p l e R s m args below meth c cc nL own ret nm (MQ below (Qm G none r mc) args s mc ms (fA G)) cells slots pc lv [] μ := y_vret hret hc hs hf hd
end XD
theorem wL_X6_3 : Cond.methodLink RX6 3 objectInit ∈ TB := tb_i 61 (by decide +kernel) (by decide +kernel)
theorem wL_X3_3 : Cond.methodLink RX3 3 objectInit ∈ TB := tb_i 69 (by decide +kernel) (by decide +kernel)
theorem wL_X0_3 : Cond.methodLink RX0 3 objectInit ∈ TB := tb_i 88 (by decide +kernel) (by decide +kernel)
theorem wL_X4_1 : Cond.methodLink RX4 1 objectInit ∈ TB := tb_i 135 (by decide +kernel) (by decide +kernel)
theorem wL_X5_3 : Cond.methodLink RX5 3 objectInit ∈ TB := tb_i 158 (by decide +kernel) (by decide +kernel)
theorem wL_X2_3 : Cond.methodLink RX2 3 objectInit ∈ TB := tb_i 179 (by decide +kernel) (by decide +kernel)
theorem wL_X1_3 : Cond.methodLink RX1 3 objectInit ∈ TB := tb_i 207 (by decide +kernel) (by decide +kernel)
theorem wL_X7_1 : Cond.methodLink RX7 1 objectInit ∈ TB := tb_i 737 (by decide +kernel) (by decide +kernel)
theorem wK_L_7 : Cond.classLink RL 7 (kT 6).1 ∈ TB := tb_i 56 (by decide +kernel) (by decide +kernel)
theorem wK_X6_9 : Cond.classLink RX6 9 (kT 3).1 ∈ TB := tb_i 64 (by decide +kernel) (by decide +kernel)
theorem wK_X6_16 : Cond.classLink RX6 16 (kT 0).1 ∈ TB := tb_i 83 (by decide +kernel) (by decide +kernel)
theorem wK_X6_26 : Cond.classLink RX6 26 (kT 4).1 ∈ TB := tb_i 130 (by decide +kernel) (by decide +kernel)
theorem wK_X4_13 : Cond.classLink RX4 13 (kT 0).1 ∈ TB := tb_i 139 (by decide +kernel) (by decide +kernel)
theorem wK_X6_38 : Cond.classLink RX6 38 (kT 5).1 ∈ TB := tb_i 153 (by decide +kernel) (by decide +kernel)
theorem wK_X6_45 : Cond.classLink RX6 45 (kT 2).1 ∈ TB := tb_i 174 (by decide +kernel) (by decide +kernel)
theorem wK_X6_52 : Cond.classLink RX6 52 (kT 1).1 ∈ TB := tb_i 202 (by decide +kernel) (by decide +kernel)
theorem wK_L_10 : Cond.classLink RL 10 (kT 7).1 ∈ TB := tb_i 732 (by decide +kernel) (by decide +kernel)
theorem wN_6 : Cond.instantiable (kT 6).1 (kT 6).2.2 ∈ TB := tb_i 57 (by decide +kernel) (by decide +kernel)
theorem wA_6 : Cond.initialized (kT 6).1 ∈ TB := tb_i 42 (by decide +kernel) (by decide +kernel)
theorem wN_3 : Cond.instantiable (kT 3).1 (kT 3).2.2 ∈ TB := tb_i 65 (by decide +kernel) (by decide +kernel)
theorem wA_3 : Cond.initialized (kT 3).1 ∈ TB := tb_i 43 (by decide +kernel) (by decide +kernel)
theorem wN_0 : Cond.instantiable (kT 0).1 (kT 0).2.2 ∈ TB := tb_i 84 (by decide +kernel) (by decide +kernel)
theorem wA_0 : Cond.initialized (kT 0).1 ∈ TB := tb_i 44 (by decide +kernel) (by decide +kernel)
theorem wN_4 : Cond.instantiable (kT 4).1 (kT 4).2.2 ∈ TB := tb_i 131 (by decide +kernel) (by decide +kernel)
theorem wA_4 : Cond.initialized (kT 4).1 ∈ TB := tb_i 45 (by decide +kernel) (by decide +kernel)
theorem wN_5 : Cond.instantiable (kT 5).1 (kT 5).2.2 ∈ TB := tb_i 154 (by decide +kernel) (by decide +kernel)
theorem wA_5 : Cond.initialized (kT 5).1 ∈ TB := tb_i 47 (by decide +kernel) (by decide +kernel)
theorem wN_2 : Cond.instantiable (kT 2).1 (kT 2).2.2 ∈ TB := tb_i 175 (by decide +kernel) (by decide +kernel)
theorem wA_2 : Cond.initialized (kT 2).1 ∈ TB := tb_i 48 (by decide +kernel) (by decide +kernel)
theorem wN_1 : Cond.instantiable (kT 1).1 (kT 1).2.2 ∈ TB := tb_i 203 (by decide +kernel) (by decide +kernel)
theorem wA_1 : Cond.initialized (kT 1).1 ∈ TB := tb_i 49 (by decide +kernel) (by decide +kernel)
theorem wN_7 : Cond.instantiable (kT 7).1 (kT 7).2.2 ∈ TB := tb_i 733 (by decide +kernel) (by decide +kernel)
theorem wA_7 : Cond.initialized (kT 7).1 ∈ TB := tb_i 54 (by decide +kernel) (by decide +kernel)
theorem wR_char : Cond.arrayClass (newarray.typeOf .char) ∈ TB := tb_i 81 (by decide +kernel) (by decide +kernel)
theorem wR_int : Cond.arrayClass (newarray.typeOf .int) ∈ TB := tb_i 82 (by decide +kernel) (by decide +kernel)
theorem wR_boolean : Cond.arrayClass (newarray.typeOf .boolean) ∈ TB := tb_i 173 (by decide +kernel) (by decide +kernel)
