/-! a shelf: a ring of C greens -/
def isS (sa C ba : Nat) : Prop := (sa = 16 ∧ C = 8 ∧ ba = 18) ∨ (sa = 66 ∧ C = 2 ∧ ba = 68)
def Sh (sa C ba : Nat) (m : Nat → Nat → Int32) (l : Nat → Nat → Int64) (n : Nat) (f : Nat → Gn) : Prop := n ≤ C ∧ m sa 0 = nI n ∧ ∃ nx, nx < C ∧ m sa 1 = nI nx ∧ ∀ i, i < n → CG (ba + 6 * ((nx + C - n + i) % C)) m l (f i)
/-- nothing but the shelf has changed -/
def FS {α : Type} (sa C ba : Nat) (m m' : Nat → Nat → α) : Prop := ∀ c, c < sa ∨ ba + 6 * C ≤ c → m' c = m c
def push (C n : Nat) (f : Nat → Gn) (g : Gn) : Nat → Gn := fun i => if n < C then (if i = n then g else f i) else (if i + 1 = C then g else f (i + 1))
def more (C n : Nat) : Nat := if n < C then n + 1 else n
section RNa
variable {sa C ba : Nat} {m : Nat → Nat → Int32} {l : Nat → Nat → Int64} {g : Gn} {n : Nat} {f : Nat → Gn}
theorem S_o (h : isS sa C ba) : isO 4 sa (Mk m l) := by
  rcases h with ⟨rfl, rfl, rfl⟩ | ⟨rfl, rfl, rfl⟩
  · exact ⟨show 16 < 107 by decide, by decide⟩
  · exact ⟨show 66 < 107 by decide, by decide⟩
theorem S_gI (h : isS sa C ba) {k : Nat} : gI 4 sa k (Mk m l) = some (m sa k) := by rw [gI, grd, if_pos (S_o h)]; rfl
theorem S_pI (h : isS sa C ba) {k : Nat} {x : Int32} : pI 4 sa k x (Mk m l) = some (Mk (m2 m sa k x) l) := by rw [pI, grd, if_pos (S_o h)]; rfl
theorem S_r2 (h : isS sa C ba) : gR 4 sa 2 (Mk m l) = some (sa + 1) := by
  rcases h with ⟨rfl, rfl, rfl⟩ | ⟨rfl, rfl, rfl⟩
  · exact gRk ⟨show 16 < 107 by decide, by decide⟩ (by decide) (by decide) (by decide)
  · exact gRk ⟨show 66 < 107 by decide, by decide⟩ (by decide) (by decide) (by decide)
theorem S_aN (h : isS sa C ba) : aN 11 (sa + 1) (Mk m l) = some (nI C) := by
  rcases h with ⟨rfl, rfl, rfl⟩ | ⟨rfl, rfl, rfl⟩ <;> rfl
theorem S_C (h : isS sa C ba) : C ≤ 8 ∧ 2 ≤ C := by
  rcases h with ⟨rfl, rfl, rfl⟩ | ⟨rfl, rfl, rfl⟩ <;> decide
theorem S_aR (h : isS sa C ba) {j : Nat} (hj : j < C) : aR (sa + 1) (nI j) (Mk m l) = some (ba + 6 * j) := by
  have h8 := (S_C h).1
  have e : (nI j).toNatClampNeg = j := nI_clamp (by omega)
  rcases h with ⟨rfl, rfl, rfl⟩ | ⟨rfl, rfl, rfl⟩
  · have h1 : isO 11 17 (Mk m l) ∧ inb (nI j) (sh 17).2 = true := ⟨⟨show 17 < 107 by decide, by decide⟩, inb_nI hj (by decide)⟩
    rw [aR, grd, if_pos h1, e]
    have : ∀ j, j < 8 → rS 17 j = some (18 + 6 * j) := by decide
    exact (rN_eq 17 (by decide) j (by omega)).trans (this j hj)
  · have h1 : isO 11 67 (Mk m l) ∧ inb (nI j) (sh 67).2 = true := ⟨⟨show 67 < 107 by decide, by decide⟩, inb_nI hj (by decide)⟩
    rw [aR, grd, if_pos h1, e]
    have : ∀ j, j < 2 → rS 67 j = some (68 + 6 * j) := by decide
    exact (rN_eq 67 (by decide) j (by omega)).trans (this j hj)
theorem S_G (h : isS sa C ba) {j : Nat} (hj : j < C) : isG (ba + 6 * j) := by
  unfold isG
  rcases h with ⟨rfl, rfl, rfl⟩ | ⟨rfl, rfl, rfl⟩ <;> omega
theorem S_ba (h : isS sa C ba) : ba = sa + 2 := by
  rcases h with ⟨rfl, rfl, rfl⟩ | ⟨rfl, rfl, rfl⟩ <;> rfl
theorem S_slotAt (h : isS sa C ba) {j : Nat} (hj : j < C) : fX4_slotAt sa (nI j) (Mk m l) = some (some (ba + 6 * j), Mk m l) := by
  have h8 := (S_C h).1
  rw [fX4_slotAt, grd_t (S_o h), if_neg (nI_pos (by omega))]
  simp only [S_r2 h, S_aN h, Option.bind_some, if_neg (nI_ge hj (show C < 2 ^ 31 by omega)), S_aR h hj]
theorem S_isFull (h : isS sa C ba) (hn : n ≤ C) (e : m sa 0 = nI n) : fX4_isFull sa (Mk m l) = some (if n < C then 0 else 1, Mk m l) := by
  have h8 := (S_C h).1
  rw [fX4_isFull, grd_t (S_o h)]
  simp only [S_gI h, S_r2 h, S_aN h, Option.bind_some, e]
  by_cases q : n < C
  · rw [if_pos (nI_lt q (by omega)), if_pos q]
  · rw [if_neg (Int32.not_lt.mpr (nI_le (by omega) (by omega))), if_neg q]
theorem S_empty (h : isS sa C ba) (hs : Sh sa C ba m l n f) : ∃ m', fX4_empty sa (Mk m l) = some (Mk m' l) ∧ Sh sa C ba m' l 0 f ∧ FS sa C ba m m' := by
  obtain ⟨h1, h2, nx, h3, h4, h5⟩ := hs
  refine ⟨m2 m sa 0 0, ?_, ⟨Nat.zero_le _, m2_at, nx, h3, ?_, fun i hi => absurd hi (by omega)⟩, fun c hc => m2_ne ?_⟩
  · rw [fX4_empty, grd_t (S_o h), S_pI h, Option.bind_some]
  · rw [m2_nk (by decide)]
    exact h4
  · have := S_ba h
    have := S_C h
    omega
theorem CG_sa (h : isS sa C ba) {a k : Nat} {x : Int32} (ha : isG a) (hc : CG a m l g) : CG a (m2 m sa k x) l g := by
  refine CG_eq hc (fun c h1 h2 => m2_ne ?_) rfl
  unfold isG at ha
  rcases h with ⟨rfl, rfl, rfl⟩ | ⟨rfl, rfl, rfl⟩ <;> omega
theorem md {C x : Nat} (h : C ≠ 0) : x % C < C := Nat.mod_lt _ (by omega)
theorem S_store (h : isS sa C ba) (hs : Sh sa C ba m l n f) (hc : CG 4 m l g) (hP : g 0 0 ≤ 5) : ∃ m' l', fX4_store sa 4 (Mk m l) = some (Mk m' l') ∧ Sh sa C ba m' l' (more C n) (push C n f g) ∧ FS sa C ba m m' ∧ FS sa C ba l l' := by
  obtain ⟨h1, h2, nx, h3, h4, h5⟩ := hs
  have h8 := S_C h
  have hba := S_ba h
  have hG := S_G h h3
  have hsa : 16 ≤ sa := by
    rcases h with ⟨rfl, rfl, rfl⟩ | ⟨rfl, rfl, rfl⟩ <;> decide
  obtain ⟨m1, l1, e1, c1, f1, g1⟩ := c_copyFrom (a := ba + 6 * nx) (b := 4) hG isG_4 (by omega) hc hP
  have k0 : m1 sa = m sa := f1 sa (by omega)
  have hfin : ∃ nx', nx' < C ∧ nx' = (nx + 1) % C ∧ fX4_store sa 4 (Mk m l) = fX4_store_44 sa sa (nI nx') (Mk m1 l1) := by
    refine ⟨(nx + 1) % C, md (by omega), rfl, ?_⟩
    rw [fX4_store, grd_t (S_o h)]
    simp only [S_gI h, Option.bind_some, h4, S_slotAt h h3, Option.elim, e1, S_r2 h, S_aN h, k0, nI_1]
    by_cases q : nx + 1 < C
    · rw [if_neg (nI_ge q (by omega)), Nat.mod_eq_of_lt q]
    · rw [if_pos (nI_le (by omega) (by omega)), show nx + 1 = C by omega, Nat.mod_self]
      rfl
  obtain ⟨nx', hx1, hx2, hx3⟩ := hfin
  rw [hx3]
  have e44 : fX4_store_44 sa sa (nI nx') (Mk m1 l1) = some (Mk (m2 (m2 m1 sa 1 (nI nx')) sa 0 (nI (more C n))) l1) ∨ (n = C ∧ fX4_store_44 sa sa (nI nx') (Mk m1 l1) = some (Mk (m2 m1 sa 1 (nI nx')) l1)) := by
    rw [fX4_store_44, S_pI h, Option.bind_some, S_isFull h h1 (by rw [m2_nk (by decide), k0]; exact h2), Option.bind_some]
    by_cases q : n < C
    · left
      simp only [if_pos q, if_true, S_gI h, Option.bind_some, S_pI h, more]
      rw [m2_nk (by decide), k0, h2, nI_1]
    · right
      simp only [if_neg q, if_neg (show ¬ (1 : Int32) = 0 by decide)]
      exact ⟨by omega, trivial⟩
  have hslots : ∀ (m' : Nat → Nat → Int32), (∀ c, c ≠ sa → m' c = m1 c) → ∀ i, i < more C n → CG (ba + 6 * ((nx' + C - more C n + i) % C)) m' l1 (push C n f g i) := by
    intro m' hm' i hi
    have hmov : ∀ j (gg : Gn), j < C → CG (ba + 6 * j) m1 l1 gg → CG (ba + 6 * j) m' l1 gg := fun j gg hj hcg => CG_eq hcg (fun c q1 q2 => hm' c (by omega)) rfl
    have hold : ∀ j (gg : Gn), j < C → j ≠ nx → CG (ba + 6 * j) m l gg → CG (ba + 6 * j) m' l1 gg := by
      intro j gg hj hjn hcg
      refine hmov j gg hj (CG_eq hcg (fun c q1 q2 => f1 c (by omega)) ?_)
      rw [g1]
      exact m2_ne (by omega)
    by_cases q : n < C
    · simp only [more, if_pos q] at hi ⊢
      simp only [push, if_pos q]
      by_cases q2 : i = n
      · rw [if_pos q2, show (nx' + C - (n + 1) + i) % C = nx by
          subst q2
          rw [hx2]
          rcases h with ⟨rfl, rfl, rfl⟩ | ⟨rfl, rfl, rfl⟩ <;> omega]
        exact hmov nx g h3 c1
      · rw [if_neg q2]
        have e : (nx' + C - (n + 1) + i) % C = (nx + C - n + i) % C ∧ (nx + C - n + i) % C ≠ nx := by
          rw [hx2]
          rcases h with ⟨rfl, rfl, rfl⟩ | ⟨rfl, rfl, rfl⟩ <;> omega
        rw [e.1]
        exact hold _ _ (md (by omega)) e.2 (h5 i (by omega))
    · have hnC : n = C := by omega
      subst hnC
      simp only [more, if_neg q] at hi ⊢
      simp only [push, if_neg q]
      by_cases q2 : i + 1 = n
      · rw [if_pos q2, show (nx' + n - n + i) % n = nx by
          rw [hx2]
          rcases h with ⟨rfl, rfl, rfl⟩ | ⟨rfl, rfl, rfl⟩ <;> omega]
        exact hmov nx g h3 c1
      · rw [if_neg q2]
        have e : (nx' + n - n + i) % n = (nx + n - n + (i + 1)) % n ∧ (nx + n - n + (i + 1)) % n ≠ nx := by
          rw [hx2]
          rcases h with ⟨rfl, rfl, rfl⟩ | ⟨rfl, rfl, rfl⟩ <;> omega
        rw [e.1]
        exact hold _ _ (md (by omega)) e.2 (h5 (i + 1) (by omega))
  have hl : FS sa C ba l l1 := by
    intro c hc
    rw [g1]
    exact m2_ne (by omega)
  have hmC : more C n ≤ C := by
    unfold more
    split <;> omega
  rcases e44 with e44 | ⟨hn, e44⟩
  · rw [e44]
    refine ⟨_, _, rfl, ⟨hmC, m2_at, nx', hx1, ?_, hslots _ (fun c hc => by rw [m2_ne hc, m2_ne hc])⟩, fun c hc => ?_, hl⟩
    · rw [m2_nk (by decide), m2_at]
    · rw [m2_ne (by omega), m2_ne (by omega)]
      exact f1 c (by omega)
  · rw [e44]
    have hm : more C n = n := by
      unfold more
      rw [if_neg (by omega)]
    refine ⟨_, _, rfl, ⟨hmC, ?_, nx', hx1, m2_at, hslots _ (fun c hc => m2_ne hc)⟩, fun c hc => ?_, hl⟩
    · rw [m2_nk (by decide), k0, h2, hm]
    · rw [m2_ne (by omega)]
      exact f1 c (by omega)
theorem S_fetch0 (h : isS sa C ba) (hs : Sh sa C ba m l 0 f) : fX4_fetchInto sa 4 (Mk m l) = some (0, Mk m l) := by
  obtain ⟨h1, h2, nx, h3, h4, h5⟩ := hs
  have h8 := S_C h
  have key : ∀ j, j < C → fX4_fetchInto_23 sa 4 (nI j) (Mk m l) = some (0, Mk m l) := by
    intro j hj
    rw [fX4_fetchInto_23, S_slotAt h hj]
    simp only [Option.bind_some, Option.elim, S_gI h, h2, if_pos (show nI 0 = 0 from rfl)]
  rw [fX4_fetchInto, grd_t (S_o h)]
  simp only [S_gI h, Option.bind_some, h4, S_r2 h, S_aN h]
  by_cases q : nx = 0
  · subst q
    obtain ⟨d, rfl⟩ : ∃ d, C = d + 1 := ⟨C - 1, by omega⟩
    rw [if_pos (by decide), nI_pred]
    exact key d (by omega)
  · obtain ⟨d, rfl⟩ : ∃ d, nx = d + 1 := ⟨nx - 1, by omega⟩
    rw [if_neg (by rw [show (0 : Int32) = nI 0 from rfl]; exact nI_ge (by omega) (by omega)), nI_pred]
    exact key d (by omega)
/-- the last is fetched into the green of now -/
theorem S_fetch (h : isS sa C ba) (hs : Sh sa C ba m l (n + 1) f) (hP : f n 0 0 ≤ 5) : ∃ m' l', fX4_fetchInto sa 4 (Mk m l) = some (1, Mk m' l') ∧ Sh sa C ba m' l' n f ∧ CG 4 m' l' (f n) ∧ (∀ c, c ≠ sa → c < 4 ∨ 9 < c → m' c = m c) ∧ (∀ c, c ≠ 4 → l' c = l c) := by
  obtain ⟨h1, h2, nx, h3, h4, h5⟩ := hs
  have h8 := S_C h
  have hba := S_ba h
  have hsa : 16 ≤ sa := by
    rcases h with ⟨rfl, rfl, rfl⟩ | ⟨rfl, rfl, rfl⟩ <;> decide
  have key : ∀ j, j < C → j = (nx + C - 1) % C → ∃ m' l', fX4_fetchInto_23 sa 4 (nI j) (Mk m l) = some (1, Mk m' l') ∧ Sh sa C ba m' l' n f ∧ CG 4 m' l' (f n) ∧ (∀ c, c ≠ sa → c < 4 ∨ 9 < c → m' c = m c) ∧ (∀ c, c ≠ 4 → l' c = l c) := by
    intro j hj hj2
    have hcj : CG (ba + 6 * j) m l (f n) := by
      have := h5 n (by omega)
      rwa [show (nx + C - (n + 1) + n) % C = j by
        rw [hj2]
        rcases h with ⟨rfl, rfl, rfl⟩ | ⟨rfl, rfl, rfl⟩ <;> omega] at this
    obtain ⟨m1, l1, e1, c1, f1, g1⟩ := c_copyFrom (a := 4) (b := ba + 6 * j) isG_4 (S_G h hj) (by omega) hcj hP
    have k0 : m1 sa = m sa := f1 sa (by omega)
    refine ⟨m2 (m2 m1 sa 1 (nI j)) sa 0 (nI n), l1, ?_, ⟨by omega, m2_at, j, hj, ?_, ?_⟩, CG_sa h isG_4 (CG_sa h isG_4 c1), ?_, ?_⟩
    · rw [fX4_fetchInto_23, S_slotAt h hj]
      have hn0 : ¬ nI (n + 1) = 0 := by
        rw [show (0 : Int32) = nI 0 from rfl, nI_inj (by omega) (by decide)]
        omega
      simp only [Option.bind_some, Option.elim, S_gI h, h2, if_neg hn0, e1, S_pI h]
      rw [m2_nk (by decide), k0, h2, nI_pred]
    · rw [m2_nk (by decide), m2_at]
    · intro i hi
      have := h5 i (by omega)
      rw [show (nx + C - (n + 1) + i) % C = (j + C - n + i) % C by
        rw [hj2]
        rcases h with ⟨rfl, rfl, rfl⟩ | ⟨rfl, rfl, rfl⟩ <;> omega] at this
      have hlt := md (C := C) (x := j + C - n + i) (by omega)
      refine CG_sa h (S_G h hlt) (CG_sa h (S_G h hlt) (CG_eq this (fun c q1 q2 => f1 c (by omega)) ?_))
      rw [g1]
      exact m2_ne (by omega)
    · intro c hc1 hc2
      rw [m2_ne hc1, m2_ne hc1]
      exact f1 c (by omega)
    · intro c hc
      rw [g1]
      exact m2_ne hc
  rw [fX4_fetchInto, grd_t (S_o h)]
  simp only [S_gI h, Option.bind_some, h4, S_r2 h, S_aN h]
  by_cases q : nx = 0
  · subst q
    obtain ⟨d, hd⟩ : ∃ d, C = d + 1 := ⟨C - 1, by omega⟩
    rw [if_pos (by decide), show nI C - 1 = nI d by rw [hd, nI_pred]]
    refine key d (by omega) ?_
    rw [hd, Nat.mod_eq_of_lt (by omega)]
    omega
  · obtain ⟨d, rfl⟩ : ∃ d, nx = d + 1 := ⟨nx - 1, by omega⟩
    rw [if_neg (by rw [show (0 : Int32) = nI 0 from rfl]; exact nI_ge (by omega) (by omega)), nI_pred]
    refine key d (by omega) ?_
    rw [show d + 1 + C - 1 = d + C by omega, Nat.add_mod_right, Nat.mod_eq_of_lt (by omega)]
end RNa
