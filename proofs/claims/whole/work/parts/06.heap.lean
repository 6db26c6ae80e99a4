section XH
variable {G : Gm} {p : Program} {l : Launch} {e : Env} {R : Room} {s : State} {m : MethodId} {args : Array Value} {below : List Frame} {meth : Method} {c : Code} {cc : ByteArray} {nL : Nat} {own : String} {ret : Option FieldType} {nm : String} {Q : State → Prop} {cells slots pc : Nat} {lv lv' : List (Nat × Value)} {st rest : List Value} {μ μ' : Mu}
/-- the words of a field's link: the field's place in its object -/
def FW (own : String) (idx ci k : Nat) : Prop := Cond.fieldLink own idx ((kT ci).2.1 k).1 ((kT ci).2.1 k).2.1 ((kT ci).2.1 k).2.2.1 ∈ TB
theorem o_at {G : Gm} {μ : Mu} {a ci : Nat} (h : isO ci a μ) (hc : ci < 8) : (wsOf G μ)[a]? = some (gB G + a, .inr (ci, fs (gB G) μ a ci)) := by rw [ws_at h.1, cell_o h.2 hc]
theorem x_getI {a i ci k : Nat} {x : Int32} (hw : FW own i ci k) (hc : ci < 8) (hk : k < (kT ci).2.2) (hty : kF ci k = .int) (hg : gI ci a k μ = some x) (hd : decode cc pc = .ok (.getfield i, 3)) (kk : Lt G p l e R s m args below meth c cc nL own ret nm Q cells slots (pc + 3) lv (.int x :: st) μ) : Lt G p l e R s m args below meth c cc nL own ret nm Q cells slots pc lv (.ref (gB G + a) :: st) μ := by
  intro C z H L ls h1 h2 h3
  have ho := grd_p hg
  refine va_get (D := G.1) (cl := vwCl) (tys := tysOf G) (T := (kT ci).2.1) (C := (kT ci).1) (N := (kT ci).2.2) C.1 C.2.1 C.2.2.2.2.1 (clok hc).2.1 C.2.2.2.1 C.2.2.2.2.2.1.1 h1 a (o_at ho hc) (clok hc).1 k hk (C.2.2.2.2.1 _ hw) (fun _ q => q) (v := .int x) ?_ hd (kk C z H L ls h1 h2 h3)
  rw [fs_get hk]
  rw [hty, ← Option.some.inj (grd_v hg)]; rfl
theorem x_getL {a i ci k : Nat} {x : Int64} (hw : FW own i ci k) (hc : ci < 8) (hk : k < (kT ci).2.2) (hty : kF ci k = .long) (hg : gL ci a k μ = some x) (hd : decode cc pc = .ok (.getfield i, 3)) (kk : Lt G p l e R s m args below meth c cc nL own ret nm Q cells slots (pc + 3) lv (.long x :: st) μ) : Lt G p l e R s m args below meth c cc nL own ret nm Q cells slots pc lv (.ref (gB G + a) :: st) μ := by
  intro C z H L ls h1 h2 h3
  have ho := grd_p hg
  refine va_get (D := G.1) (cl := vwCl) (tys := tysOf G) (T := (kT ci).2.1) (C := (kT ci).1) (N := (kT ci).2.2) C.1 C.2.1 C.2.2.2.2.1 (clok hc).2.1 C.2.2.2.1 C.2.2.2.2.2.1.1 h1 a (o_at ho hc) (clok hc).1 k hk (C.2.2.2.2.1 _ hw) (fun _ q => q) (v := .long x) ?_ hd (kk C z H L ls h1 h2 h3)
  rw [fs_get hk]
  rw [hty, ← Option.some.inj (grd_v hg)]; rfl
theorem x_getR {a i ci k : Nat} {x : Nat} (hw : FW own i ci k) (hc : ci < 8) (hk : k < (kT ci).2.2) (hty : isRf (kF ci k) = true) (hg : gR ci a k μ = some x) (hd : decode cc pc = .ok (.getfield i, 3)) (kk : Lt G p l e R s m args below meth c cc nL own ret nm Q cells slots (pc + 3) lv (.ref (gB G + x) :: st) μ) : Lt G p l e R s m args below meth c cc nL own ret nm Q cells slots pc lv (.ref (gB G + a) :: st) μ := by
  intro C z H L ls h1 h2 h3
  have ho := grd_p hg
  refine va_get (D := G.1) (cl := vwCl) (tys := tysOf G) (T := (kT ci).2.1) (C := (kT ci).1) (N := (kT ci).2.2) C.1 C.2.1 C.2.2.2.2.1 (clok hc).2.1 C.2.2.2.1 C.2.2.2.2.2.1.1 h1 a (o_at ho hc) (clok hc).1 k hk (C.2.2.2.2.1 _ hw) (fun _ q => q) (v := .ref (gB G + x)) ?_ hd (kk C z H L ls h1 h2 h3)
  rw [fs_get hk]
  rw [fv_rf hty, grd_v hg]; rfl
theorem nar_rf {ty : FieldType} {a : Nat} (h : isRf ty = true) : narrow ty (.ref a) = .ref a := by cases ty <;> first | rfl | simp [isRf] at h
theorem fit_rf {ty : FieldType} {a : Nat} (h : isRf ty = true) : fits ty (.ref a) = true := by cases ty <;> first | rfl | simp [isRf] at h
theorem x_putI {a i ci k : Nat} {x : Int32} (hw : FW own i ci k) (hc : ci < 8) (hk : k < (kT ci).2.2) (hty : kF ci k = .int) (hfin : ((kT ci).2.1 k).2.2.2 = false) (hg : pI ci a k x μ = some μ') (hd : decode cc pc = .ok (.putfield i, 3)) (kk : Lt G p l e R s m args below meth c cc nL own ret nm Q cells slots (pc + 3) lv st μ') : Lt G p l e R s m args below meth c cc nL own ret nm Q cells slots pc lv ((.int x) :: .ref (gB G + a) :: st) μ := by
  intro C z H L ls h1 h2 h3
  have ho := grd_p hg
  have hμ : si μ a k x = μ' := Option.some.inj (grd_v hg)
  refine va_put (D := G.1) (cl := vwCl) (tys := tysOf G) (T := (kT ci).2.1) (C := (kT ci).1) (N := (kT ci).2.2) (ty := kF ci k) (A := fA G) C.1 C.2.1 C.2.2.2.2.1 (clok hc).2.1 (kF ci) (clok hc).2.2.1 (clok hc).2.2.2 C.2.2.2.1 C.2.2.2.2.2.1.1 h1 (ws_D G μ) h2 a (o_at ho hc) (clok hc).1 k hk (C.2.2.2.2.1 _ hw) (fun _ q => q) hfin ((clok hc).2.2.1 k hk) (by rw [hty]; rfl) (by rw [hty]; rfl) (by simpa [fs] using hk) hd ?_
  intro H1 L1 p1 p2 p3
  have hs : (wsOf G μ).set a (gB G + a, .inr (ci, (fs (gB G) μ a ci).set k (.int x))) = wsOf G μ' := by
    subst hμ
    refine ws_set rfl (fun c' q => cell_si q) ?_
    rw [cell_o ho.2 hc, fs_set (μ' := si μ a k x) (v := (.int x)) (k := k) ?_ (fun j q => fv_si q)]
    rw [hty]; show Value.int _ = _; simp [si, m2_at]
  rw [hs] at p1
  exact kk C (by subst hμ; exact z) H1 L1 ls p1 p3 h3
theorem x_putL {a i ci k : Nat} {x : Int64} (hw : FW own i ci k) (hc : ci < 8) (hk : k < (kT ci).2.2) (hty : kF ci k = .long) (hfin : ((kT ci).2.1 k).2.2.2 = false) (hg : pL ci a k x μ = some μ') (hd : decode cc pc = .ok (.putfield i, 3)) (kk : Lt G p l e R s m args below meth c cc nL own ret nm Q cells slots (pc + 3) lv st μ') : Lt G p l e R s m args below meth c cc nL own ret nm Q cells slots pc lv ((.long x) :: .ref (gB G + a) :: st) μ := by
  intro C z H L ls h1 h2 h3
  have ho := grd_p hg
  have hμ : sl μ a k x = μ' := Option.some.inj (grd_v hg)
  refine va_put (D := G.1) (cl := vwCl) (tys := tysOf G) (T := (kT ci).2.1) (C := (kT ci).1) (N := (kT ci).2.2) (ty := kF ci k) (A := fA G) C.1 C.2.1 C.2.2.2.2.1 (clok hc).2.1 (kF ci) (clok hc).2.2.1 (clok hc).2.2.2 C.2.2.2.1 C.2.2.2.2.2.1.1 h1 (ws_D G μ) h2 a (o_at ho hc) (clok hc).1 k hk (C.2.2.2.2.1 _ hw) (fun _ q => q) hfin ((clok hc).2.2.1 k hk) (by rw [hty]; rfl) (by rw [hty]; rfl) (by simpa [fs] using hk) hd ?_
  intro H1 L1 p1 p2 p3
  have hs : (wsOf G μ).set a (gB G + a, .inr (ci, (fs (gB G) μ a ci).set k (.long x))) = wsOf G μ' := by
    subst hμ
    refine ws_set rfl (fun c' q => cell_sl q) ?_
    rw [cell_o ho.2 hc, fs_set (μ' := sl μ a k x) (v := (.long x)) (k := k) ?_ (fun j q => fv_sl q)]
    rw [hty]; show Value.long _ = _; simp [sl, m2_at]
  rw [hs] at p1
  exact kk C (by subst hμ; exact z) H1 L1 ls p1 p3 h3
theorem x_putRF {a i ci k : Nat} {x : Nat} (hw : FW own i ci k) (hc : ci < 8) (hk : k < (kT ci).2.2) (hty : isRf (kF ci k) = true) (hfin : ((kT ci).2.1 k).2.2.2 = true) (hnm : nm = "<init>") (hdc : ((kT ci).2.1 k).1 = own) (hg : pR ci a k x μ = some μ') (hd : decode cc pc = .ok (.putfield i, 3)) (kk : Lt G p l e R s m args below meth c cc nL own ret nm Q cells slots (pc + 3) lv st μ') : Lt G p l e R s m args below meth c cc nL own ret nm Q cells slots pc lv ((.ref (gB G + x)) :: .ref (gB G + a) :: st) μ := by
  intro C z H L ls h1 h2 h3
  have ho := grd_p hg
  have hμ : sr μ a k (some x) = μ' := Option.some.inj (grd_v hg)
  refine va_putF (D := G.1) (cl := vwCl) (tys := tysOf G) (T := (kT ci).2.1) (C := (kT ci).1) (N := (kT ci).2.2) (ty := kF ci k) (A := fA G) C.1 C.2.1 C.2.2.2.2.1 (clok hc).2.1 (kF ci) (clok hc).2.2.1 (clok hc).2.2.2 C.2.2.2.1 C.2.2.2.2.2.1.1 h1 (ws_D G μ) h2 a (o_at ho hc) (clok hc).1 k hk (C.2.2.2.2.1 _ hw) (fun _ q => q) hfin (by rw [C.2.2.2.2.2.2.2.2.2]; exact hnm) hdc ((clok hc).2.2.1 k hk) (nar_rf hty) (fit_rf hty) (by simpa [fs] using hk) hd ?_
  intro H1 L1 p1 p2 p3
  have hs : (wsOf G μ).set a (gB G + a, .inr (ci, (fs (gB G) μ a ci).set k (.ref (gB G + x)))) = wsOf G μ' := by
    subst hμ
    refine ws_set rfl (fun c' q => cell_sr q) ?_
    rw [cell_o ho.2 hc, fs_set (μ' := sr μ a k (some x)) (v := (.ref (gB G + x))) (k := k) ?_ (fun j q => fv_sr q)]
    rw [fv_rf hty]; simp [sr, m2_at, va_rf]
  rw [hs] at p1
  exact kk C (by subst hμ; exact z) H1 L1 ls p1 p3 h3
/-- what the machine's own count says of the heap's size -/
theorem W_sz {H : Heap} {locs : List Loc} {g : JFrame} (k : H.size ≤ s.heap.size + cells → W p l e R s m args below meth c H locs cells slots Q g) : W p l e R s m args below meth c H locs cells slots Q g := fun T hT X => k (by rw [← hT]; exact X.heapSize) T hT X
theorem Hp_sz {H : Heap} {locs : List Loc} (hg : gB G ≤ s.heap.size) (z : s.heap.size + cells = gB G + μ.1) (h1 : Hp G μ H) (h2 : va_S (fA G) s.heap H locs) (h : H.size ≤ s.heap.size + cells) : H.size = gB G + μ.1 := by
  have h4 := h2.1
  cases hn : μ.1 with
  | zero => omega
  | succ k =>
    have h5 := (h1 k _ (ws_at (by omega))).lt
    dsimp only at h5
    omega
theorem a_8 {a : Nat} (h : isO 8 a μ) : (wsOf G μ)[a]? = some (gB G + a, .inl (G.2.1, (sh a).2, .inl (μ.2.1 a))) := by rw [ws_at h.1, cell_8 h.2]
theorem a_9 {a : Nat} (h : isO 9 a μ) : (wsOf G μ)[a]? = some (gB G + a, .inl (G.2.2.1, (sh a).2, .inl (μ.2.1 a))) := by rw [ws_at h.1, cell_9 h.2]
theorem a_10 {a : Nat} (h : isO 10 a μ) : (wsOf G μ)[a]? = some (gB G + a, .inl (G.2.2.2.1, (sh a).2, .inl (μ.2.1 a))) := by rw [ws_at h.1, cell_10 h.2]
theorem a_11 {a : Nat} (h : isO 11 a μ) : (wsOf G μ)[a]? = some (gB G + a, .inl (G.2.2.2.2.1, (sh a).2, .inr (.inr (.inr (.inr (fun k => (μ.2.2.2 a k).map (fun b => gB G + b))))))) := by rw [ws_at h.1, cell_11 h.2]
theorem x_iald {a : Nat} {i x : Int32} (hg : aI 8 a i μ = some x) (hd : decode cc pc = .ok (.iaload, 1)) (kk : Lt G p l e R s m args below meth c cc nL own ret nm Q cells slots (pc + 1) lv (.int x :: st) μ) : Lt G p l e R s m args below meth c cc nL own ret nm Q cells slots pc lv (.int i :: .ref (gB G + a) :: st) μ := by
  intro C z H L ls h1 h2 h3
  have ho := grd_p hg
  refine va_iald C.1 C.2.1 C.2.2.2.2.2.1.1 h1 a 0 (a_8 ho.1) rfl (inb_p ho.2) hd ?_
  rw [Option.some.inj (grd_v hg)]
  exact kk C z H L ls h1 h2 h3
theorem x_cald {a : Nat} {i x : Int32} (hg : aI 9 a i μ = some x) (hd : decode cc pc = .ok (.caload, 1)) (kk : Lt G p l e R s m args below meth c cc nL own ret nm Q cells slots (pc + 1) lv (.int x :: st) μ) : Lt G p l e R s m args below meth c cc nL own ret nm Q cells slots pc lv (.int i :: .ref (gB G + a) :: st) μ := by
  intro C z H L ls h1 h2 h3
  have ho := grd_p hg
  refine va_cald C.1 C.2.1 C.2.2.2.2.2.1.1 h1 a 1 (a_9 ho.1) rfl (inb_p ho.2) hd ?_
  rw [Option.some.inj (grd_v hg)]
  exact kk C z H L ls h1 h2 h3
theorem x_zald {a : Nat} {i x : Int32} (hg : aI 10 a i μ = some x) (hd : decode cc pc = .ok (.baload, 1)) (kk : Lt G p l e R s m args below meth c cc nL own ret nm Q cells slots (pc + 1) lv (.int x :: st) μ) : Lt G p l e R s m args below meth c cc nL own ret nm Q cells slots pc lv (.int i :: .ref (gB G + a) :: st) μ := by
  intro C z H L ls h1 h2 h3
  have ho := grd_p hg
  refine va_zald C.1 C.2.1 C.2.2.2.2.2.1.1 h1 a 2 (a_10 ho.1) rfl (inb_p ho.2) hd ?_
  rw [Option.some.inj (grd_v hg)]
  exact kk C z H L ls h1 h2 h3
theorem x_aald {a : Nat} {i : Int32} {x : Nat} (hg : aR a i μ = some x) (hd : decode cc pc = .ok (.aaload, 1)) (kk : Lt G p l e R s m args below meth c cc nL own ret nm Q cells slots (pc + 1) lv (.ref (gB G + x) :: st) μ) : Lt G p l e R s m args below meth c cc nL own ret nm Q cells slots pc lv (.int i :: .ref (gB G + a) :: st) μ := by
  intro C z H L ls h1 h2 h3
  have ho := grd_p hg
  refine va_aldq C.1 C.2.1 C.2.2.2.2.2.1.1 h1 a 3 (a_11 ho.1) rfl (inb_p ho.2) hd ?_
  rw [grd_v hg]
  exact kk C z H L ls h1 h2 h3
theorem upd_si {f : Nat → Nat → Int32} {a k : Nat} {x : Int32} : upd (f a) k x = m2 f a k x a := by
  funext j
  by_cases h : j = k <;> simp [upd, m2, h]
theorem x_iast {a : Nat} {i x : Int32} (hg : bI 8 a i x μ = some μ') (hd : decode cc pc = .ok (.iastore, 1)) (kk : Lt G p l e R s m args below meth c cc nL own ret nm Q cells slots (pc + 1) lv st μ') : Lt G p l e R s m args below meth c cc nL own ret nm Q cells slots pc lv (.int x :: .int i :: .ref (gB G + a) :: st) μ := by
  intro C z H L ls h1 h2 h3
  have ho := grd_p hg
  have hμ : si μ a i.toNatClampNeg x = μ' := Option.some.inj (grd_v hg)
  subst hμ
  refine va_iast (A := fA G) C.1 C.2.1 C.2.2.2.2.2.1.1 h1 (ws_D G μ) h2 a 0 (a_8 ho.1) rfl (inb_p ho.2) hd ?_
  intro H1 L1 p1 p2 p3
  rw [ws_set (G := G) (μ := μ) (c := a) (μ' := si μ a i.toNatClampNeg x) rfl (fun c' q => cell_si q) (by rw [cell_8 ho.1.2, upd_si]; rfl)] at p1
  exact kk C z H1 L1 ls p1 p3 h3
theorem x_cast {a : Nat} {i x : Int32} (hg : bI 9 a i x μ = some μ') (hd : decode cc pc = .ok (.castore, 1)) (kk : Lt G p l e R s m args below meth c cc nL own ret nm Q cells slots (pc + 1) lv st μ') : Lt G p l e R s m args below meth c cc nL own ret nm Q cells slots pc lv (.int x :: .int i :: .ref (gB G + a) :: st) μ := by
  intro C z H L ls h1 h2 h3
  have ho := grd_p hg
  have hμ : si μ a i.toNatClampNeg (vp_nar .char x) = μ' := Option.some.inj (grd_v hg)
  subst hμ
  refine va_cast (A := fA G) C.1 C.2.1 C.2.2.2.2.2.1.1 h1 (ws_D G μ) h2 a 1 (a_9 ho.1) rfl (inb_p ho.2) hd ?_
  intro H1 L1 p1 p2 p3
  rw [ws_set (G := G) (μ := μ) (c := a) (μ' := si μ a i.toNatClampNeg (vp_nar .char x)) rfl (fun c' q => cell_si q) (by rw [cell_9 ho.1.2, upd_si]; rfl)] at p1
  exact kk C z H1 L1 ls p1 p3 h3
theorem x_zast {a : Nat} {i x : Int32} (hg : bI 10 a i x μ = some μ') (hd : decode cc pc = .ok (.bastore, 1)) (kk : Lt G p l e R s m args below meth c cc nL own ret nm Q cells slots (pc + 1) lv st μ') : Lt G p l e R s m args below meth c cc nL own ret nm Q cells slots pc lv (.int x :: .int i :: .ref (gB G + a) :: st) μ := by
  intro C z H L ls h1 h2 h3
  have ho := grd_p hg
  have hμ : si μ a i.toNatClampNeg (vp_nar .boolean x) = μ' := Option.some.inj (grd_v hg)
  subst hμ
  refine va_zast (A := fA G) C.1 C.2.1 C.2.2.2.2.2.1.1 h1 (ws_D G μ) h2 a 2 (a_10 ho.1) rfl (inb_p ho.2) hd ?_
  intro H1 L1 p1 p2 p3
  rw [ws_set (G := G) (μ := μ) (c := a) (μ' := si μ a i.toNatClampNeg (vp_nar .boolean x)) rfl (fun c' q => cell_si q) (by rw [cell_10 ho.1.2, upd_si]; rfl)] at p1
  exact kk C z H1 L1 ls p1 p3 h3
theorem x_aast {a : Nat} {i : Int32} {x : Nat} (hg : bR a i x μ = some μ') (hd : decode cc pc = .ok (.aastore, 1)) (kk : Lt G p l e R s m args below meth c cc nL own ret nm Q cells slots (pc + 1) lv st μ') : Lt G p l e R s m args below meth c cc nL own ret nm Q cells slots pc lv (.ref (gB G + x) :: .int i :: .ref (gB G + a) :: st) μ := by
  intro C z H L ls h1 h2 h3
  have ho := grd_p hg
  have hμ : sr μ a i.toNatClampNeg (some x) = μ' := Option.some.inj (grd_v hg)
  subst hμ
  refine va_astq (A := fA G) (r := kT 0) C.1 C.2.1 C.2.2.2.2.2.1.1 h1 (ws_D G μ) h2 a 3 x 0 (a_11 ho.1.1) rfl (o_at ho.2 (by decide)) rfl (inb_p ho.1.2) hd ?_
  intro H1 L1 p1 p2 p3
  have hs : (wsOf G μ).set a (gB G + a, .inl (G.2.2.2.2.1, (sh a).2, .inr (.inr (.inr (.inr (va_up (fun k => (μ.2.2.2 a k).map (fun b => gB G + b)) i.toNatClampNeg (some (gB G + x)))))))) = wsOf G (sr μ a i.toNatClampNeg (some x)) := by
    refine ws_set rfl (fun c' q => cell_sr q) ?_
    have hf : va_up (fun k => (μ.2.2.2 a k).map (fun b => gB G + b)) i.toNatClampNeg (some (gB G + x)) = fun k => ((sr μ a i.toNatClampNeg (some x)).2.2.2 a k).map (fun b => gB G + b) := by
      funext j
      by_cases h : j = i.toNatClampNeg <;> simp [va_up, sr, m2, h]
    rw [cell_11 ho.1.1.2, hf]
  rw [hs] at p1
  exact kk C z H1 L1 ls p1 p3 h3
theorem x_alenG {a : Nat} {x : Int32} (hg : aN 11 a μ = some x) (hd : decode cc pc = .ok (.arraylength, 1)) (kk : Lt G p l e R s m args below meth c cc nL own ret nm Q cells slots (pc + 1) lv (.int x :: st) μ) : Lt G p l e R s m args below meth c cc nL own ret nm Q cells slots pc lv (.ref (gB G + a) :: st) μ := by
  intro C z H L ls h1 h2 h3
  have ho := grd_p hg
  exact va_alen C.1 C.2.1 C.2.2.2.2.2.1.1 h1 a 3 (a_11 ho) rfl (Option.some.inj (grd_v hg)) hd (kk C z H L ls h1 h2 h3)
/-! returns -/
theorem x_iret {mc ms : Nat} {x : Int32} {r : Option Value} {μ2 : Mu} (hret : ret = some .int) (hr : r = some (.int x)) (hμ : μ = μ2) (hc : cells = mc) (hs : slots = ms) (hd : decode cc pc = .ok (.ireturn, 1)) : Lt G p l e R s m args below meth c cc nL own ret nm (MQ below (Qm G r μ2 mc) args s mc ms (fA G)) cells slots pc lv [.int x] μ := by
  intro C z H L ls h1 h2 h3
  subst hr; subst hμ; subst hc; subst hs
  exact W.iret C.1 C.2.1 (C.2.2.2.2.2.2.2.2.1.trans hret) (fun t ht hW => ⟨rfl, by rw [ht]; exact h1, h2.F ht, z⟩) h2.2.2 hd C.2.2.2.2.2.2.1
theorem x_zret {mc ms : Nat} {x : Int32} {ty : FieldType} {r : Option Value} {μ2 : Mu} (hret : ret = some ty) (hn : narrow ty (.int x) = .int x) (hr : r = some (.int x)) (hμ : μ = μ2) (hc : cells = mc) (hs : slots = ms) (hd : decode cc pc = .ok (.ireturn, 1)) : Lt G p l e R s m args below meth c cc nL own ret nm (MQ below (Qm G r μ2 mc) args s mc ms (fA G)) cells slots pc lv [.int x] μ := by
  intro C z H L ls h1 h2 h3
  subst hr; subst hμ; subst hc; subst hs
  exact W.zret C.1 C.2.1 (C.2.2.2.2.2.2.2.2.1.trans hret) hn (fun t ht hW => ⟨rfl, by rw [ht]; exact h1, h2.F ht, z⟩) h2.2.2 hd C.2.2.2.2.2.2.1
theorem x_vret {mc ms : Nat} {r : Option Value} {μ2 : Mu} (hret : ret = none) (hr : r = none) (hμ : μ = μ2) (hc : cells = mc) (hs : slots = ms) (hd : decode cc pc = .ok (.return_, 1)) : Lt G p l e R s m args below meth c cc nL own ret nm (MQ below (Qm G r μ2 mc) args s mc ms (fA G)) cells slots pc lv [] μ := by
  intro C z H L ls h1 h2 h3
  subst hr; subst hμ; subst hc; subst hs
  exact W.vret C.1 C.2.1 (C.2.2.2.2.2.2.2.2.1.trans hret) (fun t ht hW => ⟨rfl, by rw [ht]; exact h1, h2.F ht, z⟩) h2.2.2 hd C.2.2.2.2.2.2.1
theorem x_aret {mc ms : Nat} {v : Value} {C0 : String} {r : Option Value} {μ2 : Mu} (hret : ret = some (.object C0)) (hv : v = .null ∨ ∃ a, v = .ref a) (hr : r = some v) (hμ : μ = μ2) (hc : cells = mc) (hs : slots = ms) (hd : decode cc pc = .ok (.areturn, 1)) : Lt G p l e R s m args below meth c cc nL own ret nm (MQ below (Qm G r μ2 mc) args s mc ms (fA G)) cells slots pc lv [v] μ := by
  intro C z H L ls h1 h2 h3
  subst hr; subst hμ; subst hc; subst hs
  exact W.aret C.1 C.2.1 (C.2.2.2.2.2.2.2.2.1.trans hret) (Or.inl ⟨C0, rfl⟩) hv (fun t ht hW => ⟨rfl, by rw [ht]; exact h1, h2.F ht, z⟩) h2.2.2 hd C.2.2.2.2.2.2.1
/-! calls -/
/-- a method's own words: its code, that it is an instance's, selected, its class initialised; how many it takes -/
def YW (y : MethodName) (bytes : ByteArray) (maxL : Nat) (rt : Option FieldType) (n : Nat) : Prop := Cond.code y bytes maxL rt ∈ TB ∧ Cond.initialized y.cls ∈ TB ∧ (y.cls ≠ "java/lang/invoke/MethodHandle" ∧ y.cls ≠ "java/lang/invoke/VarHandle" ∧ (parseMethodDescriptor y.desc).map (fun d => d.parameters.length) = some n)
theorem Pm_blind {avs : List Value} : FrameBlind (Pm G avs μ) := fun a U g mk q => ⟨q.1, q.2.1, q.2.2.1, q.2.2.2.same rfl⟩
theorem x_after {pc' : Nat} {rm0 : Nat} {mc ms : Nat} {H : Heap} {locs : List Loc} {ls : Array Slot} {r : Option Value} {av : Array Value} (C : Cx G p s m args meth c cc nL own ret nm) (z : s.heap.size + cells = gB G + μ.1) (hH : H.size = gB G + μ.1) (h2 : va_S (fA G) s.heap H locs) (h3 : lv_has ls nL lv)
    (hr : va_Run p l e R s m args below meth c H locs cells slots mc ms (F0 m pc ls st) rest (Qm G r μ' mc av) (fA G)) (kk : Lt G p l e R s m args below meth c cc nL own ret nm Q (cells + mc) (slots + ms) (pc + 3) lv (r.toList ++ rest) μ') : W p l e R s m args below meth c H locs cells slots Q (F0 m pc ls st) := by
  intro T hT X
  obtain ⟨v, st0, t, T', L, g0, X', hL, e1, e2, ⟨q1, q2, q3, q4⟩, hst⟩ := hr T hT X
  cases q1
  rw [g0] at q4
  have hF := q3
  obtain ⟨t2, a1, b1⟩ := kk C (by omega) T'.heap (locs ++ L) ls (by rw [e1]; exact q2) ⟨by
      have h4 := hF.1
      rw [g0] at h4
      rw [e1]
      exact Nat.le_trans h2.1 h4, fun q w1 w2 => by
      rw [e1, hF.2 q (by rw [g0]; exact Nat.lt_of_lt_of_le w1 h2.1) w2, g0]
      exact h2.2.1 q w1 w2, fun q hq => by
      rcases List.mem_append.mp hq with h | h
      · exact h2.2.2 q h
      · exact hL q h⟩ h3 T' rfl X'
  exact ⟨t2, hst t2 a1, b1⟩
theorem x_callV {i a ci : Nat} {y : MethodName} {bytes : ByteArray} {maxL' lev mc ms : Nat} {rt : Option FieldType} {r : Option Value} (As : List Value) (hM : Mt G l y bytes maxL' rt lev mc ms (.ref (gB G + a) :: As) μ r μ') (hy : YW y bytes maxL' rt As.length) (hin : Cond.instanceMethod y ∈ TB) (hse : Cond.selects y.cls y y ∈ TB) (hlk : Cond.methodLink own i y ∈ TB) (ho : isO ci a μ) (hci : ci < 8) (hcn : (kT ci).1 = y.cls)
    (hst : st = As.reverse ++ .ref (gB G + a) :: rest) (hrm : (rest.map fun v => v.category).sum ≤ 8) (hR : lev + 1 ≤ R.frames ∧ 8 + (maxL' + 11) + 40 * lev ≤ R.locals) (hf : cells + mc ≤ R.cells ∧ slots + ms ≤ R.slots) (hd : decode cc pc = .ok (.invokevirtual i, 3))
    (kk : Lt G p l e R s m args below meth c cc nL own ret nm Q (cells + mc) (slots + ms) (pc + 3) lv (r.toList ++ rest) μ') : Lt G p l e R s m args below meth c cc nL own ret nm Q cells slots pc lv st μ := by
  intro C z H L ls h1 h2 h3
  refine W_sz (fun hsz => ?_)
  have hH := Hp_sz C.2.2.2.2.2.2.2.1 z h1 h2 hsz
  have ht := C.2.2.2.2.1
  refine x_after (rm0 := 0) (pc' := 0) C z hH h2 h3 (va_runV (bytes := bytes) (maxL := maxL') (ret := rt) (Ts := TB) (own := own) (C := y.cls) (nL := nL) ⟨C.1, C.2.1, C.2.2.1, C.2.2.2.1, ht⟩ hM ?_ ⟨Pm_blind, ?_, fun U hU hW => ⟨rfl, by rw [hU]; exact hH, by rw [hU]; exact h1, C.2.2.2.2.2.1.warm hW⟩⟩ rfl rfl h3.1 hst (lv_room hrm) hd hf) kk
  · refine ⟨callB_of As.length ht (tb_code hy.1) rfl rfl rfl (ht _ hy.2.1) (ht _ hlk) hy.2.2 hR, ht _ hin, ht _ hse⟩
  · have := va_recv C.2.2.2.2.2.1.1 h1 (clok hci).1 (o_at ho hci)
    rwa [hcn] at this
theorem x_callS {i : Nat} {y : MethodName} {bytes : ByteArray} {maxL' lev mc ms : Nat} {rt : Option FieldType} {r : Option Value} (As : List Value) (hM : Mt G l y bytes maxL' rt lev mc ms As μ r μ') (hy : YW y bytes maxL' rt As.length) (hsta : Cond.static y ∈ TB) (hlk : Cond.methodLink own i y ∈ TB)
    (hst : st = As.reverse ++ rest) (hrm : (rest.map fun v => v.category).sum ≤ 8) (hR : lev + 1 ≤ R.frames ∧ 8 + (maxL' + 11) + 40 * lev ≤ R.locals) (hf : cells + mc ≤ R.cells ∧ slots + ms ≤ R.slots) (hd : decode cc pc = .ok (.invokestatic i, 3))
    (kk : Lt G p l e R s m args below meth c cc nL own ret nm Q (cells + mc) (slots + ms) (pc + 3) lv (r.toList ++ rest) μ') : Lt G p l e R s m args below meth c cc nL own ret nm Q cells slots pc lv st μ := by
  intro C z H L ls h1 h2 h3
  refine W_sz (fun hsz => ?_)
  have hH := Hp_sz C.2.2.2.2.2.2.2.1 z h1 h2 hsz
  have ht := C.2.2.2.2.1
  refine x_after (rm0 := 0) (pc' := 0) C z hH h2 h3 (va_runS (bytes := bytes) (maxL := maxL') (ret := rt) (Ts := TB) (own := own) (nL := nL) ⟨C.1, C.2.1, C.2.2.1, C.2.2.2.1, ht⟩ hM ?_ ⟨Pm_blind, fun U hU hW => ⟨rfl, by rw [hU]; exact hH, by rw [hU]; exact h1, C.2.2.2.2.2.1.warm hW⟩⟩ rfl rfl h3.1 hst (lv_room hrm) hd hf) kk
  exact ⟨callB_of As.length ht (tb_code hy.1) rfl rfl rfl (ht _ hy.2.1) (ht _ hlk) hy.2.2 hR, ht _ hsta⟩
/-- Green's call of HourGreen's private isWithin -/
theorem x_callN {bytes : ByteArray} {maxL' lev mc ms : Nat} {rt : Option FieldType} {r : Option Value} (As : List Value) (hown : own = "HourGreen$Green") (hM : Mt G l yX6_isWithin bytes maxL' rt lev mc ms As μ r μ') (hy : YW yX6_isWithin bytes maxL' rt As.length) (hsta : Cond.static yX6_isWithin ∈ TB)
    (hst : st = As.reverse ++ rest) (hrm : (rest.map fun v => v.category).sum ≤ 8) (hR : lev + 1 ≤ R.frames ∧ 8 + (maxL' + 11) + 40 * lev ≤ R.locals) (hf : cells + mc ≤ R.cells ∧ slots + ms ≤ R.slots) (hd : decode cc pc = .ok (.invokestatic 47, 3))
    (kk : Lt G p l e R s m args below meth c cc nL own ret nm Q (cells + mc) (slots + ms) (pc + 3) lv (r.toList ++ rest) μ') : Lt G p l e R s m args below meth c cc nL own ret nm Q cells slots pc lv st μ := by
  subst hown
  intro C z H L ls h1 h2 h3
  refine W_sz (fun hsz => ?_)
  have hH := Hp_sz C.2.2.2.2.2.2.2.1 z h1 h2 hsz
  have ht := C.2.2.2.2.1
  refine x_after (rm0 := 0) (pc' := 0) C z hH h2 h3 (va_runSN (bytes := bytes) (maxL := maxL') (ret := rt) (Ts := TB) (own := "HourGreen$Green") (host := "HourGreen") (nL := nL) (n := As.length) ⟨C.1, C.2.1, C.2.2.1, C.2.2.2.1, ht⟩ hM ?_ ⟨Pm_blind, fun U hU hW => ⟨rfl, by rw [hU]; exact hH, by rw [hU]; exact h1, C.2.2.2.2.2.1.warm hW⟩⟩ rfl rfl h3.1 hst (lv_room hrm) hd hf) kk
  exact ⟨va_cnB As.length ht (tb_code hy.1) rfl rfl rfl C.2.2.2.2.2.1.2.1 (ht _ hy.2.1) hy.2.2 hR, ht _ hsta, trivial⟩
theorem x_callI {i a : Nat} {y : MethodName} {bytes : ByteArray} {maxL' lev mc ms : Nat} {r : Option Value} (As : List Value) (hM : Mt G l y bytes maxL' none lev mc ms (.ref (gB G + a) :: As) μ r μ') (hy : YW y bytes maxL' none As.length) (hin : Cond.instanceMethod y ∈ TB) (hyn : y.name = "<init>") (hlk : Cond.methodLink own i y ∈ TB)
    (hst : st = As.reverse ++ .ref (gB G + a) :: rest) (hrm : (rest.map fun v => v.category).sum ≤ 8) (hR : lev + 1 ≤ R.frames ∧ 8 + (maxL' + 11) + 40 * lev ≤ R.locals) (hf : cells + mc ≤ R.cells ∧ slots + ms ≤ R.slots) (hd : decode cc pc = .ok (.invokespecial i, 3))
    (kk : Lt G p l e R s m args below meth c cc nL own ret nm Q (cells + mc) (slots + ms) (pc + 3) lv (r.toList ++ rest) μ') : Lt G p l e R s m args below meth c cc nL own ret nm Q cells slots pc lv st μ := by
  intro C z H L ls h1 h2 h3
  refine W_sz (fun hsz => ?_)
  have hH := Hp_sz C.2.2.2.2.2.2.2.1 z h1 h2 hsz
  have ht := C.2.2.2.2.1
  refine x_after (rm0 := 0) (pc' := 0) C z hH h2 h3 (va_runI (bytes := bytes) (maxL := maxL') (Ts := TB) (own := own) (nL := nL) ⟨C.1, C.2.1, C.2.2.1, C.2.2.2.1, ht⟩ hM ?_ ⟨Pm_blind, fun U hU hW => ⟨rfl, by rw [hU]; exact hH, by rw [hU]; exact h1, C.2.2.2.2.2.1.warm hW⟩⟩ rfl rfl h3.1 hst (lv_room hrm) hd hf) kk
  exact ⟨callB_of As.length ht (tb_code hy.1) rfl rfl rfl (ht _ hy.2.1) (ht _ hlk) hy.2.2 hR, hyn, ht _ hin⟩
end XH
