theorem i_ss (x : Int32) (a b : Nat) : x - nI a - nI b = x - nI (a + b) := by
  rw [← nI_add, Int32.sub_eq_add_neg, Int32.sub_eq_add_neg, Int32.sub_eq_add_neg, Int32.neg_add, Int32.sub_eq_add_neg, Int32.add_assoc]
def tp (g : Gn) (p : Nat) : Nat := if ht g p = 0 then 7 else fd g p (ht g p - 1)
/-- the kind on top of a plot, or 9 -/
def tk (g : Gn) (p : Nat) : Nat := if tp g p = 7 then 9 else g 2 (tp g p)
def nd (b k : Nat) : Nat := if k = 2 then (if b = 2 then 0 else 1) else if k = 1 then 2 else 1
/-- the kind right beneath an hour, or 9 -/
def bk (g : Gn) (h : Nat) : Nat := if g 5 h = 0 then 9 else if fd g (g 4 h) (g 5 h - 1) = 7 then 9 else g 2 (fd g (g 4 h) (g 5 h - 1))
def sm (f : Nat → Nat) : Nat → Nat
  | 0 => 0
  | n + 1 => sm f n + f n
def us (g : Gn) (p : Nat) : Nat := sm (fun j => if g 4 j = p then nd (bk g j) (g 2 j) else 0) 7
def knI (k : Nat) : Int32 := if k = 9 then -1 else nI k
theorem ht_le (g : Gn) (p : Nat) : ht g p ≤ 7 := ct_le _ 7
theorem fd_le (g : Gn) (p d : Nat) : fd g p d ≤ 7 := fs1_le _ 7
theorem fd_is {g : Gn} {p d : Nat} (h : fd g p d < 7) : g 4 (fd g p d) = p ∧ g 5 (fd g p d) = d := by
  have := fs1_p (p := fun j => g 4 j == p && g 5 j == d) (n := 7) h
  simp only [Bool.and_eq_true, beq_iff_eq] at this
  exact this
theorem fd_N {g : Gn} (hw : Wb g) {p d : Nat} (hp : p < 9) (h : fd g p d < 7) : fd g p d < g 0 1 := by
  have h1 := (fd_is h).1
  have := (hw.2.2.2.2 _ h).2.2
  omega
theorem nd_le (b k : Nat) : nd b k ≤ 2 := by
  rw [nd]
  split
  · split <;> omega
  · split <;> omega
theorem sm_le {f : Nat → Nat} {c : Nat} (h : ∀ j, f j ≤ c) : ∀ n, sm f n ≤ n * c
  | 0 => by simp [sm]
  | n + 1 => by
    have := sm_le h n
    have := h n
    rw [sm, Nat.succ_mul]
    omega
theorem us_le (g : Gn) (p : Nat) : us g p ≤ 14 := sm_le (c := 2) (fun j => by split; exact nd_le _ _; omega) 7
section CGq
variable {a : Nat} {m : Nat → Nat → Int32} {l : Nat → Nat → Int64} {g : Gn}
theorem c_hourAtN (ha : isG a) (hc : CG a m l g) (hw : Wb g) {p : Nat} (hp : p < 9) : fX0_hourAt a (nI p) (-1) (Mk m l) = some (-4, Mk m l) := by
  rw [fX0_hourAt, grd_t (G_o ha)]
  refine lpR (fun n j (_ : Unit) => fX0_hourAt_2 n a (nI p) (-1) (nI j) (Mk m l)) (fun j _ => True) (fun o => o = some (-4, Mk m l)) 7 ?_ ?_ FU 0 () (by decide) (by decide) trivial
  · intro n j s hj hI
    left
    refine ⟨(), trivial, ?_⟩
    rw [fX0_hourAt_2, if_neg (by rw [show (7 : Int32) = nI 7 from rfl]; exact nI_ge hj (by decide)), G_r8 ha, Option.bind_some, G_a4 ha hj, Option.bind_some, (hc.2.2.1 j hj).2.2.1, G_r9 ha, Option.bind_some, G_a5 ha hj, Option.bind_some]
    by_cases h : g 4 j = p
    · have h9 : g 4 j ≠ 9 := by omega
      have hdj : g 5 j < 2 ^ 31 := by
        have := (hw.2.2.2.2 j hj).2.2
        have := ht_le g (g 4 j)
        omega
      rw [if_pos ((plI_eq (pl_le hw hj) hp).mpr h), (hc.2.2.1 j hj).2.2.2 h9, if_neg (fun q => n1_ne hdj q.symm), nI_1]
    · rw [if_neg (fun q => h ((plI_eq (pl_le hw hj) hp).mp q)), nI_1]
  · intro n s hI
    rw [fX0_hourAt_2, if_pos (by decide)]
theorem c_topOf (ha : isG a) (hc : CG a m l g) (hw : Wb g) {p : Nat} (hp : p < g 0 0) : fX0_topOf a (nI p) (Mk m l) = some (if tp g p = 7 then -4 else nI (tp g p), Mk m l) := by
  have h5 := hw.1
  rw [fX0_topOf, grd_t (G_o ha), c_hasPlot ha hc hw hp]
  simp only [Option.bind_some, if_neg (show ¬ (1 : Int32) = 0 by decide), c_heightOf ha hc hw (show p < 9 by omega)]
  by_cases h : ht g p = 0
  · rw [h, show nI 0 - 1 = -1 by decide, c_hourAtN ha hc hw (by omega)]
    simp [tp, h]
  · obtain ⟨k, hk⟩ : ∃ k, ht g p = k + 1 := ⟨ht g p - 1, by omega⟩
    have := ht_le g p
    rw [hk, nI_pred, c_hourAt ha hc hw (by omega) (by omega)]
    simp [tp, hk]
theorem c_topOf0 (ha : isG a) (hc : CG a m l g) (hw : Wb g) {x : Int32} (hx : x < 0 ∨ nI (g 0 0) ≤ x) : fX0_topOf a x (Mk m l) = some (-4, Mk m l) := by
  rw [fX0_topOf, grd_t (G_o ha), c_hasPlot0 ha hc hw hx]
  simp only [Option.bind_some, if_true]
theorem c_topKind (ha : isG a) (hc : CG a m l g) (hw : Wb g) {p : Nat} (hp : p < g 0 0) : fX0_kindOf a (if tp g p = 7 then -4 else nI (tp g p)) (Mk m l) = some (knI (tk g p), Mk m l) := by
  have h5 := hw.1
  by_cases h : tp g p = 7
  · rw [if_pos h, c_kindOf0 ha hc hw (Or.inl (by decide))]
    simp [tk, h, knI]
  · have h7 : fd g p (ht g p - 1) < 7 := by
      have := fd_le g p (ht g p - 1)
      rw [tp] at h
      split at h
      · omega
      · omega
    have he : tp g p = fd g p (ht g p - 1) := by
      rw [tp] at h ⊢
      split at h
      · omega
      · rw [if_neg (by assumption)]
    have hN : tp g p < g 0 1 := by rw [he]; exact fd_N hw (by omega) h7
    rw [if_neg h, c_kindOf ha hc hw hN]
    have := (hw.2.2.2.2 (tp g p) (by omega)).1
    rw [tk, if_neg h, knI, if_neg (by omega)]
theorem c_needAbove {x : Int32} {b k : Nat} {μ : Mu} (hk : k < 4) (hb : x = 2 ↔ b = 2) : fX0_needAbove x (nI k) μ = some (nI (nd b k), μ) := by
  rw [fX0_needAbove, nd]
  have h2 : (nI k = 2) ↔ k = 2 := by rw [show (2 : Int32) = nI 2 from rfl]; exact nI_inj (by omega) (by omega)
  have h1 : (nI k = 1) ↔ k = 1 := by rw [show (1 : Int32) = nI 1 from rfl]; exact nI_inj (by omega) (by omega)
  simp only [h1, h2, hb]
  by_cases q : k = 2
  · simp only [q, if_true]
    split
    · rfl
    · rfl
  · simp only [q, if_false]
    split <;> rfl
theorem knI_2 {b : Nat} (hb : b ≤ 9) : knI b = 2 ↔ b = 2 := by
  rw [knI]
  split
  · rename_i h
    subst h
    decide
  · rw [show (2 : Int32) = nI 2 from rfl]
    exact nI_inj (by omega) (by omega)
theorem knI_3 {b : Nat} (hb : b ≤ 9) : knI b = 3 ↔ b = 3 := by
  rw [knI]
  split
  · rename_i h
    subst h
    decide
  · rw [show (3 : Int32) = nI 3 from rfl]
    exact nI_inj (by omega) (by omega)
theorem tk_le (hw : Wb g) (p : Nat) : tk g p ≤ 9 := by
  rw [tk]
  split
  · omega
  · rename_i h
    have h7 : tp g p < 7 := by
      rw [tp] at h ⊢
      have := fd_le g p (ht g p - 1)
      split at h
      · omega
      · split <;> omega
    have := (hw.2.2.2.2 _ h7).1
    omega
theorem c_needOf (ha : isG a) (hc : CG a m l g) (hw : Wb g) {h : Nat} (hh : h < 7) (hl : g 4 h ≠ 9) : fX0_needOf a (nI h) (Mk m l) = some (nI (nd (bk g h) (g 2 h)), Mk m l) := by
  have hwh := hw.2.2.2.2 h hh
  have hN : h < g 0 1 := by omega
  have h5 := hw.1
  have hk4 := hwh.1
  have h7 := ht_le g (g 4 h)
  rw [fX0_needOf, grd_t (G_o ha), c_hasHour ha hc hw hN]
  have hpl : plI (g 4 h) = nI (g 4 h) := by rw [plI, if_neg hl]
  simp only [Option.bind_some, if_neg (show ¬ (1 : Int32) = 0 by decide), G_r8 ha, G_a4 ha hh, G_r9 ha, G_a5 ha hh, G_r6 ha, G_a2 ha hh, (hc.2.2.1 h hh).1, (hc.2.2.1 h hh).2.2.1, (hc.2.2.1 h hh).2.2.2 hl, hpl]
  by_cases hd : g 5 h = 0
  · rw [hd, show nI 0 - 1 = -1 by decide, c_hourAtN ha hc hw (by omega)]
    simp only [Option.bind_some, c_hasHour0 ha hc hw (x := -4) (Or.inl (by decide)), if_true, G_r6 ha, G_a2 ha hh, (hc.2.2.1 h hh).1]
    rw [c_needAbove (x := -1) (b := bk g h) hk4 (by simp [bk, hd])]
    rfl
  · obtain ⟨k, hk⟩ : ∃ k, g 5 h = k + 1 := ⟨g 5 h - 1, by omega⟩
    rw [hk, nI_pred, c_hourAt ha hc hw (by omega) (by omega)]
    simp only [Option.bind_some]
    by_cases hf : fd g (g 4 h) k = 7
    · rw [if_pos hf]
      simp only [c_hasHour0 ha hc hw (x := -4) (Or.inl (by decide)), Option.bind_some, if_true, G_r6 ha, G_a2 ha hh, (hc.2.2.1 h hh).1]
      rw [c_needAbove (x := -1) (b := bk g h) hk4 (by simp [bk, hk, hf])]
      rfl
    · have hfl := fd_le g (g 4 h) k
      have hfN := fd_N hw (p := g 4 h) (d := k) (by omega) (by omega)
      have hf4 := (hw.2.2.2.2 (fd g (g 4 h) k) (by omega)).1
      rw [if_neg hf]
      simp only [c_hasHour ha hc hw hfN, Option.bind_some, if_neg (show ¬ (1 : Int32) = 0 by decide), G_r6 ha, G_a2 ha hh, (hc.2.2.1 h hh).1, G_a2 ha (show fd g (g 4 h) k < 7 by omega), (hc.2.2.1 (fd g (g 4 h) k) (by omega)).1]
      rw [c_needAbove (x := nI (g 2 (fd g (g 4 h) k))) (b := bk g h) hk4 (by
        rw [show (2 : Int32) = nI 2 from rfl, nI_inj (by omega) (by omega)]
        simp [bk, hk, hf])]
      rfl
theorem c_freeIn (ha : isG a) (hc : CG a m l g) (hw : Wb g) {p : Nat} (hp : p < g 0 0) : fX0_freeIn a (nI p) (Mk m l) = some (nI (g 1 p) - nI (us g p), Mk m l) := by
  have h5 := hw.1
  rw [fX0_freeIn, grd_t (G_o ha), c_roomOf ha hc hw hp, Option.bind_some]
  refine lpR (fun n j (x : Int32) => fX0_freeIn_8 n a (nI p) x (nI j) (Mk m l)) (fun j x => x = nI (g 1 p) - nI (sm (fun j => if g 4 j = p then nd (bk g j) (g 2 j) else 0) j)) (fun o => o = some (nI (g 1 p) - nI (us g p), Mk m l)) 7 ?_ ?_ FU 0 _ (by decide) (by decide) ?_
  · intro n j s hj hI
    left
    subst hI
    refine ⟨_, rfl, ?_⟩
    rw [fX0_freeIn_8, if_neg (by rw [show (7 : Int32) = nI 7 from rfl]; exact nI_ge hj (by decide)), G_r8 ha, Option.bind_some, G_a4 ha hj, Option.bind_some, (hc.2.2.1 j hj).2.2.1]
    by_cases h : g 4 j = p
    · rw [if_pos ((plI_eq (pl_le hw hj) (by omega)).mpr h), c_needOf ha hc hw hj (by omega), Option.bind_some, i_ss, nI_1, sm]
      simp [h]
    · rw [if_neg (fun q => h ((plI_eq (pl_le hw hj) (by omega)).mp q)), nI_1, sm]
      simp [h]
  · intro n s hI
    subst hI
    rw [fX0_freeIn_8, if_pos (by decide)]
    rfl
  · show nI (g 1 p) = nI (g 1 p) - nI 0
    rw [show nI 0 = (0 : Int32) from rfl, Int32.sub_zero]
/-- whether one of a kind fits above all in a plot -/
def fit (g : Gn) (k p : Nat) : Bool := !(tk g p == 3) && decide (us g p + nd (tk g p) k ≤ g 1 p)
theorem sub_lt {R U n : Nat} (hR : R < 1000) (hU : U < 1000) (hn : n < 1000) : nI R - nI U < nI n ↔ R < U + n := by
  rw [Int32.lt_iff_toInt_lt, pk_sub_toInt (by omega) (by omega), nI_toInt (by omega)]
  omega
theorem c_hasRoomFor (ha : isG a) (hc : CG a m l g) (hw : Wb g) {h p : Nat} (hh : h < g 0 1) (hp : p < g 0 0) : fX0_hasRoomFor a (nI h) (nI p) (Mk m l) = some (if g 4 h = p then 0 else if fit g (g 2 h) p then 1 else 0, Mk m l) := by
  have h5 := hw.1
  have h7 := hw.2.1
  have hpl := pl_le hw (show h < 7 by omega)
  have hk4 := (hw.2.2.2.2 h (by omega)).1
  rw [fX0_hasRoomFor, grd_t (G_o ha), c_hasHour ha hc hw hh]
  simp only [Option.bind_some, if_neg (show ¬ (1 : Int32) = 0 by decide), c_hasPlot ha hc hw hp, c_placeOf ha hc hw hh, plI_eq hpl (show p < 9 by omega)]
  by_cases h1 : g 4 h = p
  · rw [if_pos h1, if_pos h1]
  · rw [if_neg h1, if_neg h1, c_topOf ha hc hw hp]
    simp only [Option.bind_some, c_topKind ha hc hw hp, knI_3 (tk_le hw p), c_kindOf ha hc hw hh]
    by_cases h3 : tk g p = 3
    · rw [if_pos h3, show fit g (g 2 h) p = false by simp [fit, h3]]
      rfl
    · rw [if_neg h3, c_needAbove hk4 (knI_2 (tk_le hw p))]
      simp only [Option.bind_some, c_freeIn ha hc hw hp]
      have hu := us_le g p
      have hn := nd_le (tk g p) (g 2 h)
      have hr := hw.2.2.2.1 p hp
      have e := sub_lt (R := g 1 p) (U := us g p) (n := nd (tk g p) (g 2 h)) (by omega) (by omega) (by omega)
      by_cases hq : g 1 p < us g p + nd (tk g p) (g 2 h)
      · rw [if_pos (e.mpr hq), show fit g (g 2 h) p = false by
          simp only [fit, Bool.and_eq_false_iff, decide_eq_false_iff_not]
          right
          omega]
        rfl
      · rw [if_neg (fun q => hq (e.mp q)), show fit g (g 2 h) p = true by
          simp only [fit, Bool.and_eq_true, decide_eq_true_eq]
          exact ⟨by simp [h3], by omega⟩]
        rfl
end CGq
