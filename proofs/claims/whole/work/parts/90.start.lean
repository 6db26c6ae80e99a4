theorem arr_prim {s : State} {A : Array Value} {ty : FieldType} (hp : ∀ C, ty ≠ .object C) (h : (Cond.arrayClass ty).before A s = true) : ∃ cA : ClassId, ArrOfT s cA ty ∧ va_RA s cA ty := by
  obtain ⟨cA, kA, comp, h1, h2, h3⟩ := Cond.arrayClass_spec h
  refine ⟨cA, fun n z => ⟨fun k h => (by cases h), kA, h2, comp, h3⟩, ?_⟩
  cases ty <;> first | exact h1 | exact absurd rfl (hp _)
theorem arr_obj {s : State} {C : String} (h : va_AO C s) : ∃ cA : ClassId, ArrOfT s cA (.object C) ∧ va_RA s cA (.object C) := by
  obtain ⟨comp, cA, kA, h1, h2, h3, h4, h5⟩ := Cond.arrayOver_spec h
  exact ⟨cA, fun n z => ⟨fun k h => (by cases h), kA, h3, comp, h4⟩, kA, comp, h3, h4, h1, h5⟩
theorem el_ok : ∀ j : Fin 57, Cond.eq (.elem (.field (.string "HourGreen" 59) "java/lang/String" "value" "[B") (.int (Int32.ofNat j.val))) (.int (fiB.getD j.val 0)) ∈ flatC (Jvm.Cond.and given_1 narrow_1) := by decide +kernel
set_option maxHeartbeats 4000000 in
set_option maxRecDepth 100000 in
/-- THE LAW, from its entry -/
theorem whole_start {p : Program} {e : Env} {s : State} {m : MethodId} {below : List Frame} {meth : Method} {c : Code} (l : Launch) (hflags : l.flags = flags0) {b L : Nat} {xs : Nat → Int32} (hL : L ≤ 320) (C0 : lw_At p s m meth c b L xs) : W p l e room_1 s m #[Value.ref b] below meth c s.heap [] 0 0 (lw_Z below #[Value.ref b] s) (entryFrame m ([Value.ref b] : List Value).toArray 4) := by
  obtain ⟨hx, hb, hr, hml, hown, hts, hX, hbl, hlocks, hgv⟩ := C0
  have htb : ∀ w ∈ TB, w.before #[Value.ref b] s = true := fun w hw => hts w (List.mem_filter.mp hw).1
  obtain ⟨c0, i0, k0⟩ := u_known (C := (kT 0).1) (T := (kT 0).2.1) (N := (kT 0).2.2) (n := (kT 0).2.2) htb clok0.2.1 (htb _ wN_0)
  obtain ⟨c1, i1, k1⟩ := u_known (C := (kT 1).1) (T := (kT 1).2.1) (N := (kT 1).2.2) (n := (kT 1).2.2) htb clok1.2.1 (htb _ wN_1)
  obtain ⟨c2, i2, k2⟩ := u_known (C := (kT 2).1) (T := (kT 2).2.1) (N := (kT 2).2.2) (n := (kT 2).2.2) htb clok2.2.1 (htb _ wN_2)
  obtain ⟨c3, i3, k3⟩ := u_known (C := (kT 3).1) (T := (kT 3).2.1) (N := (kT 3).2.2) (n := (kT 3).2.2) htb clok3.2.1 (htb _ wN_3)
  obtain ⟨c4, i4, k4⟩ := u_known (C := (kT 4).1) (T := (kT 4).2.1) (N := (kT 4).2.2) (n := (kT 4).2.2) htb clok4.2.1 (htb _ wN_4)
  obtain ⟨c5, i5, k5⟩ := u_known (C := (kT 5).1) (T := (kT 5).2.1) (N := (kT 5).2.2) (n := (kT 5).2.2) htb clok5.2.1 (htb _ wN_5)
  obtain ⟨c6, i6, k6⟩ := u_known (C := (kT 6).1) (T := (kT 6).2.1) (N := (kT 6).2.2) (n := (kT 6).2.2) htb clok6.2.1 (htb _ wN_6)
  obtain ⟨c7, i7, k7⟩ := u_known (C := (kT 7).1) (T := (kT 7).2.1) (N := (kT 7).2.2) (n := (kT 7).2.2) htb clok7.2.1 (htb _ wN_7)
  have hAO : va_AO RX0 s := va_AO.of (hts (.arrayOver (.object RX0)) (List.mem_of_getElem? (i := 140) (by decide +kernel)))
  obtain ⟨cI, aI1, aI2⟩ := arr_prim (ty := .int) (fun _ h => by cases h) (hts (.arrayClass .int) (List.mem_of_getElem? (i := 82) (by decide +kernel)))
  obtain ⟨cC, aC1, aC2⟩ := arr_prim (ty := .char) (fun _ h => by cases h) (hts (.arrayClass .char) (List.mem_of_getElem? (i := 81) (by decide +kernel)))
  obtain ⟨cZ, aZ1, aZ2⟩ := arr_prim (ty := .boolean) (fun _ h => by cases h) (hts (.arrayClass .boolean) (List.mem_of_getElem? (i := 173) (by decide +kernel)))
  obtain ⟨cG, aG1, aG2⟩ := arr_obj hAO
  obtain ⟨D, hKc⟩ : ∃ D : va_G, ∀ (k : Nat) (q : vw_C), vwCl[k]? = some q → u_Kn s q.1 q.2.1 q.2.2 (D.1 k) (D.2 k) := by
    refine ⟨(fun k => if k = 0 then c0 else if k = 1 then c1 else if k = 2 then c2 else if k = 3 then c3 else if k = 4 then c4 else if k = 5 then c5 else if k = 6 then c6 else c7, fun k => if k = 0 then i0 else if k = 1 then i1 else if k = 2 then i2 else if k = 3 then i3 else if k = 4 then i4 else if k = 5 then i5 else if k = 6 then i6 else i7), ?_⟩
    intro k q hq
    match k, hq with
    | 0, hq => cases hq; exact k0
    | 1, hq => cases hq; exact k1
    | 2, hq => cases hq; exact k2
    | 3, hq => cases hq; exact k3
    | 4, hq => cases hq; exact k4
    | 5, hq => cases hq; exact k5
    | 6, hq => cases hq; exact k6
    | 7, hq => cases hq; exact k7
    | k + 8, hq => simp [vwCl] at hq
  obtain ⟨G, hGe⟩ : ∃ G : Gm, G = (D, cI, cC, cZ, cG, s.heap.size) := ⟨_, rfl⟩
  have hG : gB G = s.heap.size := by rw [hGe]
  have hK : va_K G.1 vwCl (tysOf G) s := by
    rw [hGe]
    refine ⟨hKc, fun k q hq => ?_⟩
    match k, hq with
    | 0, hq => cases hq; exact ⟨aI1, aI2⟩
    | 1, hq => cases hq; exact ⟨aC1, aC2⟩
    | 2, hq => cases hq; exact ⟨aZ1, aZ2⟩
    | 3, hq => cases hq; exact ⟨aG1, aG2⟩
    | k + 4, hq => simp [tysOf] at hq
  have hNw : va_Nw nestW s := va_Nw.of rfl (hts nestW (List.mem_of_getElem? (i := 308) (by decide +kernel)))
  have hTt : Tt G s := ⟨hK, hNw, hAO⟩
  have hfl := flat_of_before _ hgv
  have hA : ∀ a : Nat, a < s.heap.size → ¬ fA G a := fun a h q => by
    have q : gB G ≤ a := q
    omega
  obtain ⟨adK, adV, hS, hev⟩ := vk_Sof (args := #[Value.ref b]) (s := s) (N := 1) (tm := fun _ => .string "HourGreen" 59) (len := [57]) (byt := [fiB]) (A := fA G) (fun i hi => by
      have : i = 0 := by omega
      subst this
      decide) (fun i hi => hfl _ (by decide +kernel)) (fun i hi => hfl _ (by decide +kernel)) (fun i hi => hfl _ (by decide +kernel)) (fun i hi => by
      have : i = 0 := by omega
      subst this
      exact hfl _ (by decide +kernel)) (fun i hi j hj => by
      have : i = 0 := by omega
      subst this
      exact hfl _ (el_ok ⟨j, hj⟩)) (fun i j hi hj hij => absurd (by omega) hij) hA
  have hCS : va_Z "java/lang/String" "COMPACT_STRINGS" "Z" (.int 1) (fA G) s s.heap := va_Zof (args := #[Value.ref b]) (hts (.laysStatic "java/lang/String" "COMPACT_STRINGS" "Z") (List.mem_of_getElem? (i := 230) (by decide +kernel))) (hts (.initialized "java/lang/String") (List.mem_of_getElem? (i := 50) (by decide +kernel))) (va_eqt (hfl (.eq (.static "java/lang/String" "COMPACT_STRINGS" "Z") (.int 1)) (by decide +kernel))) hA
  have hSF : va_Zq "jdk/internal/util/Preconditions" "SIOOBE_FORMATTER" "Ljava/util/function/BiFunction;" (fA G) s s.heap := va_Zqof (args := #[Value.ref b]) (hts (.laysStatic "jdk/internal/util/Preconditions" "SIOOBE_FORMATTER" "Ljava/util/function/BiFunction;") (List.mem_of_getElem? (i := 246) (by decide +kernel))) (hts (.initialized "jdk/internal/util/Preconditions") (List.mem_of_getElem? (i := 52) (by decide +kernel))) (hfl (.isRef (.static "jdk/internal/util/Preconditions" "SIOOBE_FORMATTER" "Ljava/util/function/BiFunction;")) (by decide +kernel)) hA
  have hk : Sk (fA G) (adK 0) (adV 0) s s.heap := by
    refine ⟨⟨fun i hi => ?_, fun i j hi hj _ => by omega⟩, hCS, hSF⟩
    have : i = 0 := by omega
    subst this
    exact hS.1 0 (by decide)
  have hkR : vk_R RX6 59 fiT (adK 0) s := vk_R.of (A := #[Value.ref b]) (hts (.stringRef RX6 59 fiT) (List.mem_of_getElem? (i := 220) (by decide +kernel))) (hev 0 (by decide))
  obtain ⟨r, hf, hr1⟩ := pure_law xs L hL
  have hlv := lv_entry ([.ref b]) (n := 4) (Nat.le_of_ble_eq_true rfl)
  rw [lg_entry_eq]
  exact tL_law hX hbl hG hr1 hk hkR mu0 hf ⟨hx, hb, hml, hown, htb, hTt, hlocks, Nat.le_of_eq hG, hr, rfl⟩ (by rw [hG]; rfl) s.heap [] _ (fun k q hq => by simp [wsOf, mu0] at hq) va_S.rf hlv
set_option maxHeartbeats 4000000 in
theorem lw_walk (l : Launch) (hflags : l.flags = flags0) (b : Addr) (xs : List Int32) : MetFree l x (headSpec (Jvm.Cond.code x code maxLocals ret :: tables_1) room_1) (lw_P b xs) (fun _ _ _ _ _ => True) lw_Q := by
  refine MetFree.of_bodyS (code := code) (maxLocals := maxLocals) (ret := ret) (by decide) ?_ ?_
  · intro args s m h hn
    obtain ⟨meth, c, h1, h2, h3, h4, h5, h6, -, -⟩ := Cond.code_spec hn (atoms_spec (ws := Jvm.Cond.code x code maxLocals ret :: tables_1) h _ List.mem_cons_self)
    exact ⟨meth, c, h1, h2, h3, h4, h5, h6⟩
  · intro p e s m args below meth c s₁ B hml0 hP _
    obtain ⟨rfl, hx, hbd, hgv⟩ := hP
    obtain ⟨scr, harrAt, hlist, hof, hsmall⟩ := hx
    obtain ⟨hcb, hkn, -, -⟩ := State.arrayAt?_spec harrAt
    have hown : s.vm.findClass R_law = some m.cls := findClass_of_methodNamed B.named
    have hts0 : ∀ c ∈ (Jvm.Cond.code x code maxLocals ret :: tables_1), c.before #[Value.ref b] s = true := atoms_spec (ws := Jvm.Cond.code x code maxLocals ret :: tables_1) B.pre
    have hts : ∀ w ∈ lw_tbl, w.before #[Value.ref b] s = true := k2_hts_sels lw_privs (fun w hw => hts0 w (List.mem_cons_of_mem _ hw)) lw_privs_ok
    have hml : c.maxLocals = 4 := B.maxLocals_eq (hts0 _ List.mem_cons_self)
    have X₀ : Stand p l e room_1 s m #[Value.ref b] below meth c s₁ [] 0 0 := Stand.of_body B
    have hh0 : s₁.heap = s.heap := by rw [B.state]; rfl
    have hsz : scr.slots.size = xs.length := by rw [← Array.length_toList, hlist, List.length_map]
    have hval : ∀ j : Nat, j < xs.length → scr.slots[j]? = some (.int (xs.getD j 0)) := fun j hj => by
      rw [← Array.getElem?_toList, hlist]
      simp [hj]
    have hbl : b < s.heap.size := (Array.getElem?_eq_some_iff.mp hcb).1
    have hX : va_X b xs.length (fun j => xs.getD j 0) s s.heap := ⟨scr, hcb, hof, hkn, hsz, hval⟩
    have K : W p l e room_1 s m #[Value.ref b] below meth c s₁.heap [] 0 0 (lw_Z below #[Value.ref b] s) (entryFrame m ([Value.ref b] : List Value).toArray 4) := by
      rw [hh0]
      exact whole_start l hflags hbd ⟨B.exec, B.bytes, B.returns, hml, hown, hts, hX, hbl, B.notSynchronized, hgv⟩
    obtain ⟨t, a1, o, b1, b2, b3⟩ := K s₁ rfl X₀
    exact ⟨t, o, a1, b1, b2, b3⟩
theorem lw_pre_spec {args : Array Value} {s : State} (h : (Jvm.Cond.and given_1 narrow_1).before args s = true) (hr : rest_1_c.before args s = true) : ∃ (b : Addr) (xs : List Int32), lw_P b xs args s := by
  have hs := flat_of_before _ h
  have hq := flat_of_before _ hr
  have hc : (Cond.count 1).before args s = true := hs _ (by decide +kernel)
  have harr : (Cond.arrayOf (.arg 0) .int).before args s = true := hs _ (by decide +kernel)
  have hle : (Cond.le (.length (.arg 0)) (.int 320)).before args s = true := hs _ (by decide +kernel)
  have hlen : (Cond.isInt (.length (.arg 0))).before args s = true := hq _ (by decide +kernel)
  have hall : (Cond.all (.arg 0) (.isInt (.elem (.arg 0) (.index 0)))).before args s = true := hq _ (by decide +kernel)
  obtain ⟨b, xs, hb, hx⟩ := State.ints_of_pre rfl harr hlen hall
  have hsm : xs.length < 2 ^ 31 := hx.choose_spec.2.2.2
  have hev : (Term.length (.arg 0)).eval args s none [] s = some (.int xs.length.toInt32) := hx.length_eval hb
  have hv := Cond.le_ints hev (show (Term.int 320).eval args s none [] s = some (.int 320) from rfl)
  have hd : xs.length.toInt32 ≤ 320 := by
    simpa [Cond.before, Cond.holds, hv] using hle
  have hN : xs.length ≤ 320 := (Int32.ofNat_le_ofNat hsm (by decide)).mp (show Int32.ofNat xs.length ≤ Int32.ofNat 320 from hd)
  exact ⟨b, xs, Cond.one_arg hc (show args[0]? = some (.ref b) from hb), hx, hN, h⟩
theorem lw_comes (l : Launch) (hflags : l.flags = flags0) : Comes l x (Jvm.Cond.code x code maxLocals ret :: tables_1) room_1 (fun tb e args s => Calls_1 tb e args s ∧ rest_1 tb e args s ∧ Pre_1 tb e args s)
    (fun _ _ args s o t => lw_Q args s o t) := by
  intro p e ha hc hk s m args below hf hfit hheap happ hpre
  obtain ⟨b, xs, hP⟩ := lw_pre_spec hpre.2.2 hpre.2.1
  obtain ⟨k, o, h1, h2, h3, hQ⟩ := lw_walk l hflags b xs p e ha hc hk s m args below hf ((Spec.applies_iff_loose hf).mp happ).1 hP trivial
  exact ⟨k, o, h1, h2, h3, hQ⟩
theorem lw_frame {s t : State} {o : Outcome} {args : Array Value} (h : Framed s o t [] 600000 7302250) :
    Framed s o t (fieldLocs frame_1_writes args s ++ arrayLocs frame_1_arrays args s ++ staticLocs frame_1_statics s) 600000 7302250 := h
theorem lw_limb (L : Cond) (hL : ∀ (args : Array Value) (s t : State), L.after args s (.returned (some (.int 1))) t = true) :
    ArmFor flags0 classFile x code maxLocals ret World_1 tables_1 room_1 Calls_1 rest_1 Pre_1
      (fun tb e a s o t => postC L tb e a s o t ∧ Framed s o t (fieldLocs frame_1_writes a s ++ arrayLocs frame_1_arrays a s ++ staticLocs frame_1_statics s) 600000 7302250) := by
  intro l hflags _ _ p e ha hc hk s m args below hf hfit hheap happ hpre
  obtain ⟨k, o, h1, h2, h3, rfl, hF⟩ := lw_comes l hflags p e ha hc hk s m args below hf hfit hheap happ hpre
  exact ⟨k, _, h1, h2, h3, hL args s _, lw_frame hF⟩
theorem i_vc : Claimed_1_1 ∧ Claimed_1_2 := ⟨lw_limb limb_1_1 (fun args s t => by simp [limb_1_1, Cond.after, Cond.holds, Cond.value]), lw_limb limb_1_2 (fun args s t => Cond.after_iff.mpr (by
  first | (rw [show limb_1_2 = Cond.eq .result (.int 1) from rfl, Cond.eq_ints (x := 1) (y := 1) rfl rfl]; simp; done) | (simp [limb_1_2, Cond.value, Term.eval]; done)))⟩
