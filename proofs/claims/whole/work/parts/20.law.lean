abbrev LL_law (G : Gm) (p : Program) (l : Launch) (e : Env) (s : State) (m : MethodId) (below : List Frame) (meth : Method) (c : Code) (b : Nat) (pc : Nat) (lv : List (Nat × Value)) (st : List Value) (μ : Mu) : Prop := Lt G p l e room_1 s m #[.ref b] below meth c cL_law 4 RL ret meth.name (lw_Z below #[.ref b] s) 107 3534 pc lv st μ
def fL_law_18 (xs : Nat → Int32) (N : Nat) : Nat → Nat → Nat → Int32 → Mu → Option (Int32 × Mu)
  | 0, _, _, _, _ => none
  | n + 1, v1, v2, v3, μ => (if ((nI N) - 5) < v3 then
    some (1, μ)
    else
    (sX xs N v3).bind fun x10 =>
    (if (x10 &&& 31) = 0 then
    (sX xs N (v3 + 1)).bind fun x13 =>
    (fX6_write v1 x13 μ).bind fun q15 =>
    (sX xs N (v3 + 1)).bind fun x17 =>
    (fX7_write v2 x17 q15.2).bind fun q19 =>
    (if q15.1 = q19.1 then
    fL_law_18 xs N n v1 v2 (v3 + 5) q19.2
    else
    some (0, q19.2))
    else if (x10 &&& 31) = 1 then
    (fX6_wipe v1  μ).bind fun q23 =>
    (fX7_wipe v2  q23.2).bind fun q25 =>
    (if q23.1 = q25.1 then
    fL_law_18 xs N n v1 v2 (v3 + 5) q25.2
    else
    some (0, q25.2))
    else if (x10 &&& 31) = 2 then
    (fX6_fault v1  μ).bind fun q29 =>
    (fX7_fault v2  q29.2).bind fun q31 =>
    (if q29.1 = q31.1 then
    fL_law_18 xs N n v1 v2 (v3 + 5) q31.2
    else
    some (0, q31.2))
    else if (x10 &&& 31) = 3 then
    (fX6_lay v1  μ).bind fun q35 =>
    (fX7_lay v2  q35.2).bind fun q37 =>
    (if q35.1 = q37.1 then
    fL_law_18 xs N n v1 v2 (v3 + 5) q37.2
    else
    some (0, q37.2))
    else if (x10 &&& 31) = 4 then
    (sX xs N (v3 + 1)).bind fun x41 =>
    (sX xs N (v3 + 2)).bind fun x43 =>
    (fX6_plot v1 x41 x43 μ).bind fun q45 =>
    (sX xs N (v3 + 1)).bind fun x47 =>
    (sX xs N (v3 + 2)).bind fun x49 =>
    (fX7_plot v2 x47 x49 q45.2).bind fun q51 =>
    (if q45.1 = q51.1 then
    fL_law_18 xs N n v1 v2 (v3 + 5) q51.2
    else
    some (0, q51.2))
    else if (x10 &&& 31) = 5 then
    (sX xs N (v3 + 1)).bind fun x55 =>
    (sX xs N (v3 + 2)).bind fun x57 =>
    (fX6_hour v1 x55 x57 μ).bind fun q59 =>
    (sX xs N (v3 + 1)).bind fun x61 =>
    (sX xs N (v3 + 2)).bind fun x63 =>
    (fX7_hour v2 x61 x63 q59.2).bind fun q65 =>
    (if q59.1 = q65.1 then
    fL_law_18 xs N n v1 v2 (v3 + 5) q65.2
    else
    some (0, q65.2))
    else if (x10 &&& 31) = 6 then
    (sX xs N (v3 + 1)).bind fun x69 =>
    (sX xs N (v3 + 2)).bind fun x71 =>
    (fX6_fits v1 x69 x71 μ).bind fun q73 =>
    (sX xs N (v3 + 1)).bind fun x75 =>
    (sX xs N (v3 + 2)).bind fun x77 =>
    (fX7_fits v2 x75 x77 q73.2).bind fun q79 =>
    (if q73.1 = q79.1 then
    fL_law_18 xs N n v1 v2 (v3 + 5) q79.2
    else
    some (0, q79.2))
    else if (x10 &&& 31) = 7 then
    (sX xs N (v3 + 1)).bind fun x83 =>
    (fX6_pass v1 x83 μ).bind fun q85 =>
    (sX xs N (v3 + 1)).bind fun x87 =>
    (fX7_pass v2 x87 q85.2).bind fun q89 =>
    (if q85.1 = q89.1 then
    fL_law_18 xs N n v1 v2 (v3 + 5) q89.2
    else
    some (0, q89.2))
    else if (x10 &&& 31) = 8 then
    (sX xs N (v3 + 1)).bind fun x93 =>
    (sX xs N (v3 + 2)).bind fun x95 =>
    (fX6_put v1 x93 x95 μ).bind fun q97 =>
    (sX xs N (v3 + 1)).bind fun x99 =>
    (sX xs N (v3 + 2)).bind fun x101 =>
    (fX7_put v2 x99 x101 q97.2).bind fun q103 =>
    (if q97.1 = q103.1 then
    fL_law_18 xs N n v1 v2 (v3 + 5) q103.2
    else
    some (0, q103.2))
    else if (x10 &&& 31) = 9 then
    (sX xs N (v3 + 1)).bind fun x107 =>
    (fX6_up v1 x107 μ).bind fun q109 =>
    (sX xs N (v3 + 1)).bind fun x111 =>
    (fX7_up v2 x111 q109.2).bind fun q113 =>
    (if q109.1 = q113.1 then
    fL_law_18 xs N n v1 v2 (v3 + 5) q113.2
    else
    some (0, q113.2))
    else if (x10 &&& 31) = 10 then
    (sX xs N (v3 + 1)).bind fun x117 =>
    (fX6_dig v1 x117 μ).bind fun q119 =>
    (sX xs N (v3 + 1)).bind fun x121 =>
    (fX7_dig v2 x121 q119.2).bind fun q123 =>
    (if q119.1 = q123.1 then
    fL_law_18 xs N n v1 v2 (v3 + 5) q123.2
    else
    some (0, q123.2))
    else if (x10 &&& 31) = 11 then
    (fX6_undo v1  μ).bind fun q127 =>
    (fX7_undo v2  q127.2).bind fun q129 =>
    (if q127.1 = q129.1 then
    fL_law_18 xs N n v1 v2 (v3 + 5) q129.2
    else
    some (0, q129.2))
    else if (x10 &&& 31) = 12 then
    (sX xs N (v3 + 1)).bind fun x133 =>
    (fX6_out v1 x133 μ).bind fun q135 =>
    (sX xs N (v3 + 1)).bind fun x137 =>
    (fX7_out v2 x137 q135.2).bind fun q139 =>
    (if q135.1 = q139.1 then
    fL_law_18 xs N n v1 v2 (v3 + 5) q139.2
    else
    some (0, q139.2))
    else if (x10 &&& 31) = 13 then
    (sX xs N (v3 + 1)).bind fun x143 =>
    (sX xs N (v3 + 2)).bind fun x145 =>
    (fX6_behind v1 x143 x145 μ).bind fun q147 =>
    (sX xs N (v3 + 1)).bind fun x149 =>
    (sX xs N (v3 + 2)).bind fun x151 =>
    (fX7_behind v2 x149 x151 q147.2).bind fun q153 =>
    (if q147.1 = q153.1 then
    fL_law_18 xs N n v1 v2 (v3 + 5) q153.2
    else
    some (0, q153.2))
    else if (x10 &&& 31) = 14 then
    (sX xs N (v3 + 1)).bind fun x157 =>
    (fX6_above v1 x157 μ).bind fun q159 =>
    (sX xs N (v3 + 1)).bind fun x161 =>
    (fX7_above v2 x161 q159.2).bind fun q163 =>
    (if q159.1 = q163.1 then
    fL_law_18 xs N n v1 v2 (v3 + 5) q163.2
    else
    some (0, q163.2))
    else if (x10 &&& 31) = 15 then
    (sX xs N (v3 + 1)).bind fun x167 =>
    (fX6_packs v1 x167 μ).bind fun q169 =>
    (sX xs N (v3 + 1)).bind fun x171 =>
    (fX7_packs v2 x171 q169.2).bind fun q173 =>
    (if q169.1 = q173.1 then
    fL_law_18 xs N n v1 v2 (v3 + 5) q173.2
    else
    some (0, q173.2))
    else if (x10 &&& 31) = 16 then
    (sX xs N (v3 + 1)).bind fun x177 =>
    (fX6_stir v1 x177 μ).bind fun q179 =>
    (sX xs N (v3 + 1)).bind fun x181 =>
    (fX7_stir v2 x181 q179.2).bind fun q183 =>
    (if q179.1 = q183.1 then
    fL_law_18 xs N n v1 v2 (v3 + 5) q183.2
    else
    some (0, q183.2))
    else if (x10 &&& 31) = 17 then
    (sX xs N (v3 + 1)).bind fun x187 =>
    (sX xs N (v3 + 2)).bind fun x189 =>
    (fX6_cheap v1 x187 x189 μ).bind fun q191 =>
    (sX xs N (v3 + 1)).bind fun x193 =>
    (sX xs N (v3 + 2)).bind fun x195 =>
    (fX7_cheap v2 x193 x195 q191.2).bind fun q197 =>
    (if q191.1 = q197.1 then
    fL_law_18 xs N n v1 v2 (v3 + 5) q197.2
    else
    some (0, q197.2))
    else if (x10 &&& 31) = 18 then
    (sX xs N (v3 + 1)).bind fun x201 =>
    (fX6_deeper v1 x201 μ).bind fun q203 =>
    (sX xs N (v3 + 1)).bind fun x205 =>
    (fX7_deeper v2 x205 q203.2).bind fun q207 =>
    (if q203.1 = q207.1 then
    fL_law_18 xs N n v1 v2 (v3 + 5) q207.2
    else
    some (0, q207.2))
    else if (x10 &&& 31) = 19 then
    (sX xs N (v3 + 1)).bind fun x211 =>
    (fX6_years v1 x211 μ).bind fun q213 =>
    (sX xs N (v3 + 1)).bind fun x215 =>
    (fX7_years v2 x215 q213.2).bind fun q217 =>
    (if q213.1 = q217.1 then
    fL_law_18 xs N n v1 v2 (v3 + 5) q217.2
    else
    some (0, q217.2))
    else if (x10 &&& 31) = 20 then
    (sX xs N (v3 + 1)).bind fun x221 =>
    (sX xs N (v3 + 2)).bind fun x223 =>
    (sX xs N (v3 + 3)).bind fun x225 =>
    (fX6_seen v1 x221 x223 x225 μ).bind fun q227 =>
    (sX xs N (v3 + 1)).bind fun x229 =>
    (sX xs N (v3 + 2)).bind fun x231 =>
    (sX xs N (v3 + 3)).bind fun x233 =>
    (fX7_seen v2 x229 x231 x233 q227.2).bind fun q235 =>
    (if q227.1 = q235.1 then
    fL_law_18 xs N n v1 v2 (v3 + 5) q235.2
    else
    some (0, q235.2))
    else if (x10 &&& 31) = 21 then
    (fX6_forget v1  μ).bind fun q239 =>
    (fX7_forget v2  q239.2).bind fun q241 =>
    (if q239.1 = q241.1 then
    fL_law_18 xs N n v1 v2 (v3 + 5) q241.2
    else
    some (0, q241.2))
    else if (x10 &&& 31) = 22 then
    (sX xs N (v3 + 1)).bind fun x245 =>
    (fX6_plots v1 x245 μ).bind fun q247 =>
    (sX xs N (v3 + 1)).bind fun x249 =>
    (fX7_plots v2 x249 q247.2).bind fun q251 =>
    (if q247.1 = q251.1 then
    fL_law_18 xs N n v1 v2 (v3 + 5) q251.2
    else
    some (0, q251.2))
    else if (x10 &&& 31) = 23 then
    (sX xs N (v3 + 1)).bind fun x255 =>
    (fX6_kinds v1 x255 μ).bind fun q257 =>
    (sX xs N (v3 + 1)).bind fun x259 =>
    (fX7_kinds v2 x259 q257.2).bind fun q261 =>
    (if q257.1 = q261.1 then
    fL_law_18 xs N n v1 v2 (v3 + 5) q261.2
    else
    some (0, q261.2))
    else if (x10 &&& 31) = 24 then
    (sX xs N (v3 + 1)).bind fun x265 =>
    (sX xs N (v3 + 2)).bind fun x267 =>
    (sX xs N (v3 + 3)).bind fun x269 =>
    (sX xs N (v3 + 4)).bind fun x271 =>
    (fX6_likely v1 x265 x267 x269 x271 μ).bind fun q273 =>
    (sX xs N (v3 + 1)).bind fun x275 =>
    (sX xs N (v3 + 2)).bind fun x277 =>
    (sX xs N (v3 + 3)).bind fun x279 =>
    (sX xs N (v3 + 4)).bind fun x281 =>
    (fX7_likely v2 x275 x277 x279 x281 q273.2).bind fun q283 =>
    (if q273.1 = q283.1 then
    fL_law_18 xs N n v1 v2 (v3 + 5) q283.2
    else
    some (0, q283.2))
    else if (x10 &&& 31) = 25 then
    (sX xs N (v3 + 1)).bind fun x287 =>
    (sX xs N (v3 + 2)).bind fun x289 =>
    (sX xs N (v3 + 3)).bind fun x291 =>
    (fX6_decade v1 x287 x289 x291 μ).bind fun q293 =>
    (sX xs N (v3 + 1)).bind fun x295 =>
    (sX xs N (v3 + 2)).bind fun x297 =>
    (sX xs N (v3 + 3)).bind fun x299 =>
    (fX7_decade v2 x295 x297 x299 q293.2).bind fun q301 =>
    (if q293.1 = q301.1 then
    fL_law_18 xs N n v1 v2 (v3 + 5) q301.2
    else
    some (0, q301.2))
    else if (x10 &&& 31) = 26 then
    (fX6_keep v1  μ).bind fun q305 =>
    (fX7_keep v2  q305.2).bind fun q307 =>
    (if q305.1 = q307.1 then
    fL_law_18 xs N n v1 v2 (v3 + 5) q307.2
    else
    some (0, q307.2))
    else if (x10 &&& 31) = 27 then
    (fX6_back v1  μ).bind fun q311 =>
    (fX7_back v2  q311.2).bind fun q313 =>
    (if q311.1 = q313.1 then
    fL_law_18 xs N n v1 v2 (v3 + 5) q313.2
    else
    some (0, q313.2))
    else if (x10 &&& 31) = 28 then
    (sX xs N (v3 + 1)).bind fun x317 =>
    (fX6_count v1 x317 μ).bind fun q319 =>
    (sX xs N (v3 + 1)).bind fun x321 =>
    (fX7_count v2 x321 q319.2).bind fun q323 =>
    (if q319.1 = q323.1 then
    fL_law_18 xs N n v1 v2 (v3 + 5) q323.2
    else
    some (0, q323.2))
    else fL_law_18 xs N n v1 v2 (v3 + 5) μ))
set_option maxRecDepth 20000 in
theorem tL_law_18 {G : Gm} {p : Program} {l : Launch} {e : Env} {s : State} {m : MethodId} {below : List Frame} {meth : Method} {c : Code} {b N : Nat} {xs : Nat → Int32} {r : Int32 × Mu} (hX : va_X b N xs s s.heap) (hbl : b < s.heap.size) (hG : gB G = s.heap.size) (hr : r.1 = 1) : ∀ (n : Nat) (v1 : Nat) (v2 : Nat) (v3 : Int32) (μ : Mu), fL_law_18 xs N n v1 v2 v3 μ = some r → LL_law G p l e s m below meth c b 18 [(0, .ref b), (1, .ref (gB G + v1)), (2, .ref (gB G + v2)), (3, .int v3)] [] μ := by
  intro n
  induction n with
  | zero =>
    intro v1 v2 v3 μ hf
    simp [fL_law_18] at hf
  | succ n ih =>
    intro v1 v2 v3 μ hf
    rw [fL_law_18] at hf
    refine x_iload_n 3 dL_law_18 rfl ?_
    refine x_aload_n 0 dL_law_19 rfl ?_
    refine x_slen hX hbl hG dL_law_20 ?_
    refine x_iconst 5 dL_law_21 (by decide) ?_
    refine x_isub dL_law_22 ?_
    refine x_icmp_gt 897 dL_law_23 rfl (fun c9 => ?_) (fun c9 => ?_)
    · rw [if_pos c9] at hf
      refine x_iconst 1 dL_law_897 (by decide) ?_
      exact y_lawret hG dL_law_898
    · rw [if_neg c9] at hf
      refine x_aload_n 0 dL_law_26 rfl ?_
      refine x_iload_n 3 dL_law_27 rfl ?_
      obtain ⟨x10, h11, hf⟩ := bnd hf
      refine x_sld h11 hX hbl hG dL_law_28 ?_
      refine x_bipush 31 dL_law_29 (by decide) ?_
      refine x_iand dL_law_31 ?_
      by_cases c12 : (x10 &&& 31) = 0
      · rw [if_pos c12] at hf
        refine x_tableIn 164 dL_law_32 (by rw [c12]; decide) (by rw [c12]; decide) (by rw [c12]; rfl) rfl ?_
        refine x_aload_n 1 dL_law_164 rfl ?_
        refine x_aload_n 0 dL_law_165 rfl ?_
        refine x_iload_n 3 dL_law_166 rfl ?_
        refine x_iconst 1 dL_law_167 (by decide) ?_
        refine x_iadd dL_law_168 ?_
        obtain ⟨x13, h14, hf⟩ := bnd hf
        refine x_sld h14 hX hbl hG dL_law_169 ?_
        obtain ⟨q15, h16, hf⟩ := bnd hf
        refine x_callVi (rest := []) [.int x13] (tX6_write v1 x13 μ h16) wY_X6_write wI_X6_write wS_X6_write wL_L_13 (grd_p h16) (by decide) rfl rfl (Nat.le_of_ble_eq_true rfl) ⟨Nat.le_of_ble_eq_true rfl, Nat.le_of_ble_eq_true rfl⟩ ⟨Nat.le_of_ble_eq_true rfl, Nat.le_of_ble_eq_true rfl⟩ dL_law_170 ?_
        refine x_aload_n 2 dL_law_173 rfl ?_
        refine x_aload_n 0 dL_law_174 rfl ?_
        refine x_iload_n 3 dL_law_175 rfl ?_
        refine x_iconst 1 dL_law_176 (by decide) ?_
        refine x_iadd dL_law_177 ?_
        obtain ⟨x17, h18, hf⟩ := bnd hf
        refine x_sld h18 hX hbl hG dL_law_178 ?_
        obtain ⟨q19, h20, hf⟩ := bnd hf
        refine x_callVi (rest := [.int q15.1]) [.int x17] (tX7_write v2 x17 q15.2 h20) wY_X7_write wI_X7_write wS_X7_write wL_L_17 (grd_p h20) (by decide) rfl rfl (Nat.le_of_ble_eq_true rfl) ⟨Nat.le_of_ble_eq_true rfl, Nat.le_of_ble_eq_true rfl⟩ ⟨Nat.le_of_ble_eq_true rfl, Nat.le_of_ble_eq_true rfl⟩ dL_law_179 ?_
        refine x_icmp_eq 891 dL_law_182 rfl (fun c21 => ?_) (fun c21 => ?_)
        · rw [if_pos c21] at hf
          refine x_iinc 3 (v3 + 5) [1, 2, 3, 0] dL_law_891 rfl rfl (by decide) (lv' := [(0, .ref b), (1, .ref (gB G + v1)), (2, .ref (gB G + v2)), (3, .int (v3 + 5))]) rfl ?_
          refine x_goto 18 dL_law_894 rfl ?_
          exact ih v1 v2 (v3 + 5) q19.2 hf
        · rw [if_neg c21] at hf
          refine x_iconst 0 dL_law_185 (by decide) ?_
          exact law_no hf hr
      rw [if_neg c12] at hf
      by_cases c22 : (x10 &&& 31) = 1
      · rw [if_pos c22] at hf
        refine x_tableIn 187 dL_law_32 (by rw [c22]; decide) (by rw [c22]; decide) (by rw [c22]; rfl) rfl ?_
        refine x_aload_n 1 dL_law_187 rfl ?_
        obtain ⟨q23, h24, hf⟩ := bnd hf
        refine x_callVi (rest := []) [] (tX6_wipe v1  μ h24) wY_X6_wipe wI_X6_wipe wS_X6_wipe wL_L_18 (grd_p h24) (by decide) rfl rfl (Nat.le_of_ble_eq_true rfl) ⟨Nat.le_of_ble_eq_true rfl, Nat.le_of_ble_eq_true rfl⟩ ⟨Nat.le_of_ble_eq_true rfl, Nat.le_of_ble_eq_true rfl⟩ dL_law_188 ?_
        refine x_aload_n 2 dL_law_191 rfl ?_
        obtain ⟨q25, h26, hf⟩ := bnd hf
        refine x_callVi (rest := [.int q23.1]) [] (tX7_wipe v2  q23.2 h26) wY_X7_wipe wI_X7_wipe wS_X7_wipe wL_L_22 (grd_p h26) (by decide) rfl rfl (Nat.le_of_ble_eq_true rfl) ⟨Nat.le_of_ble_eq_true rfl, Nat.le_of_ble_eq_true rfl⟩ ⟨Nat.le_of_ble_eq_true rfl, Nat.le_of_ble_eq_true rfl⟩ dL_law_192 ?_
        refine x_icmp_eq 891 dL_law_195 rfl (fun c27 => ?_) (fun c27 => ?_)
        · rw [if_pos c27] at hf
          refine x_iinc 3 (v3 + 5) [1, 2, 3, 0] dL_law_891 rfl rfl (by decide) (lv' := [(0, .ref b), (1, .ref (gB G + v1)), (2, .ref (gB G + v2)), (3, .int (v3 + 5))]) rfl ?_
          refine x_goto 18 dL_law_894 rfl ?_
          exact ih v1 v2 (v3 + 5) q25.2 hf
        · rw [if_neg c27] at hf
          refine x_iconst 0 dL_law_198 (by decide) ?_
          exact law_no hf hr
      rw [if_neg c22] at hf
      by_cases c28 : (x10 &&& 31) = 2
      · rw [if_pos c28] at hf
        refine x_tableIn 200 dL_law_32 (by rw [c28]; decide) (by rw [c28]; decide) (by rw [c28]; rfl) rfl ?_
        refine x_aload_n 1 dL_law_200 rfl ?_
        obtain ⟨q29, h30, hf⟩ := bnd hf
        refine x_callVi (rest := []) [] (tX6_fault v1  μ h30) wY_X6_fault wI_X6_fault wS_X6_fault wL_L_23 (grd_p h30) (by decide) rfl rfl (Nat.le_of_ble_eq_true rfl) ⟨Nat.le_of_ble_eq_true rfl, Nat.le_of_ble_eq_true rfl⟩ ⟨Nat.le_of_ble_eq_true rfl, Nat.le_of_ble_eq_true rfl⟩ dL_law_201 ?_
        refine x_aload_n 2 dL_law_204 rfl ?_
        obtain ⟨q31, h32, hf⟩ := bnd hf
        refine x_callVi (rest := [.int q29.1]) [] (tX7_fault v2  q29.2 h32) wY_X7_fault wI_X7_fault wS_X7_fault wL_L_26 (grd_p h32) (by decide) rfl rfl (Nat.le_of_ble_eq_true rfl) ⟨Nat.le_of_ble_eq_true rfl, Nat.le_of_ble_eq_true rfl⟩ ⟨Nat.le_of_ble_eq_true rfl, Nat.le_of_ble_eq_true rfl⟩ dL_law_205 ?_
        refine x_icmp_eq 891 dL_law_208 rfl (fun c33 => ?_) (fun c33 => ?_)
        · rw [if_pos c33] at hf
          refine x_iinc 3 (v3 + 5) [1, 2, 3, 0] dL_law_891 rfl rfl (by decide) (lv' := [(0, .ref b), (1, .ref (gB G + v1)), (2, .ref (gB G + v2)), (3, .int (v3 + 5))]) rfl ?_
          refine x_goto 18 dL_law_894 rfl ?_
          exact ih v1 v2 (v3 + 5) q31.2 hf
        · rw [if_neg c33] at hf
          refine x_iconst 0 dL_law_211 (by decide) ?_
          exact law_no hf hr
      rw [if_neg c28] at hf
      by_cases c34 : (x10 &&& 31) = 3
      · rw [if_pos c34] at hf
        refine x_tableIn 213 dL_law_32 (by rw [c34]; decide) (by rw [c34]; decide) (by rw [c34]; rfl) rfl ?_
        refine x_aload_n 1 dL_law_213 rfl ?_
        obtain ⟨q35, h36, hf⟩ := bnd hf
        refine x_callVi (rest := []) [] (tX6_lay v1  μ h36) wY_X6_lay wI_X6_lay wS_X6_lay wL_L_27 (grd_p h36) (by decide) rfl rfl (Nat.le_of_ble_eq_true rfl) ⟨Nat.le_of_ble_eq_true rfl, Nat.le_of_ble_eq_true rfl⟩ ⟨Nat.le_of_ble_eq_true rfl, Nat.le_of_ble_eq_true rfl⟩ dL_law_214 ?_
        refine x_aload_n 2 dL_law_217 rfl ?_
        obtain ⟨q37, h38, hf⟩ := bnd hf
        refine x_callVi (rest := [.int q35.1]) [] (tX7_lay v2  q35.2 h38) wY_X7_lay wI_X7_lay wS_X7_lay wL_L_30 (grd_p h38) (by decide) rfl rfl (Nat.le_of_ble_eq_true rfl) ⟨Nat.le_of_ble_eq_true rfl, Nat.le_of_ble_eq_true rfl⟩ ⟨Nat.le_of_ble_eq_true rfl, Nat.le_of_ble_eq_true rfl⟩ dL_law_218 ?_
        refine x_icmp_eq 891 dL_law_221 rfl (fun c39 => ?_) (fun c39 => ?_)
        · rw [if_pos c39] at hf
          refine x_iinc 3 (v3 + 5) [1, 2, 3, 0] dL_law_891 rfl rfl (by decide) (lv' := [(0, .ref b), (1, .ref (gB G + v1)), (2, .ref (gB G + v2)), (3, .int (v3 + 5))]) rfl ?_
          refine x_goto 18 dL_law_894 rfl ?_
          exact ih v1 v2 (v3 + 5) q37.2 hf
        · rw [if_neg c39] at hf
          refine x_iconst 0 dL_law_224 (by decide) ?_
          exact law_no hf hr
      rw [if_neg c34] at hf
      by_cases c40 : (x10 &&& 31) = 4
      · rw [if_pos c40] at hf
        refine x_tableIn 226 dL_law_32 (by rw [c40]; decide) (by rw [c40]; decide) (by rw [c40]; rfl) rfl ?_
        refine x_aload_n 1 dL_law_226 rfl ?_
        refine x_aload_n 0 dL_law_227 rfl ?_
        refine x_iload_n 3 dL_law_228 rfl ?_
        refine x_iconst 1 dL_law_229 (by decide) ?_
        refine x_iadd dL_law_230 ?_
        obtain ⟨x41, h42, hf⟩ := bnd hf
        refine x_sld h42 hX hbl hG dL_law_231 ?_
        refine x_aload_n 0 dL_law_232 rfl ?_
        refine x_iload_n 3 dL_law_233 rfl ?_
        refine x_iconst 2 dL_law_234 (by decide) ?_
        refine x_iadd dL_law_235 ?_
        obtain ⟨x43, h44, hf⟩ := bnd hf
        refine x_sld h44 hX hbl hG dL_law_236 ?_
        obtain ⟨q45, h46, hf⟩ := bnd hf
        refine x_callVi (rest := []) [.int x41, .int x43] (tX6_plot v1 x41 x43 μ h46) wY_X6_plot wI_X6_plot wS_X6_plot wL_L_31 (grd_p h46) (by decide) rfl rfl (Nat.le_of_ble_eq_true rfl) ⟨Nat.le_of_ble_eq_true rfl, Nat.le_of_ble_eq_true rfl⟩ ⟨Nat.le_of_ble_eq_true rfl, Nat.le_of_ble_eq_true rfl⟩ dL_law_237 ?_
        refine x_aload_n 2 dL_law_240 rfl ?_
        refine x_aload_n 0 dL_law_241 rfl ?_
        refine x_iload_n 3 dL_law_242 rfl ?_
        refine x_iconst 1 dL_law_243 (by decide) ?_
        refine x_iadd dL_law_244 ?_
        obtain ⟨x47, h48, hf⟩ := bnd hf
        refine x_sld h48 hX hbl hG dL_law_245 ?_
        refine x_aload_n 0 dL_law_246 rfl ?_
        refine x_iload_n 3 dL_law_247 rfl ?_
        refine x_iconst 2 dL_law_248 (by decide) ?_
        refine x_iadd dL_law_249 ?_
        obtain ⟨x49, h50, hf⟩ := bnd hf
        refine x_sld h50 hX hbl hG dL_law_250 ?_
        obtain ⟨q51, h52, hf⟩ := bnd hf
        refine x_callVi (rest := [.int q45.1]) [.int x47, .int x49] (tX7_plot v2 x47 x49 q45.2 h52) wY_X7_plot wI_X7_plot wS_X7_plot wL_L_35 (grd_p h52) (by decide) rfl rfl (Nat.le_of_ble_eq_true rfl) ⟨Nat.le_of_ble_eq_true rfl, Nat.le_of_ble_eq_true rfl⟩ ⟨Nat.le_of_ble_eq_true rfl, Nat.le_of_ble_eq_true rfl⟩ dL_law_251 ?_
        refine x_icmp_eq 891 dL_law_254 rfl (fun c53 => ?_) (fun c53 => ?_)
        · rw [if_pos c53] at hf
          refine x_iinc 3 (v3 + 5) [1, 2, 3, 0] dL_law_891 rfl rfl (by decide) (lv' := [(0, .ref b), (1, .ref (gB G + v1)), (2, .ref (gB G + v2)), (3, .int (v3 + 5))]) rfl ?_
          refine x_goto 18 dL_law_894 rfl ?_
          exact ih v1 v2 (v3 + 5) q51.2 hf
        · rw [if_neg c53] at hf
          refine x_iconst 0 dL_law_257 (by decide) ?_
          exact law_no hf hr
      rw [if_neg c40] at hf
      by_cases c54 : (x10 &&& 31) = 5
      · rw [if_pos c54] at hf
        refine x_tableIn 259 dL_law_32 (by rw [c54]; decide) (by rw [c54]; decide) (by rw [c54]; rfl) rfl ?_
        refine x_aload_n 1 dL_law_259 rfl ?_
        refine x_aload_n 0 dL_law_260 rfl ?_
        refine x_iload_n 3 dL_law_261 rfl ?_
        refine x_iconst 1 dL_law_262 (by decide) ?_
        refine x_iadd dL_law_263 ?_
        obtain ⟨x55, h56, hf⟩ := bnd hf
        refine x_sld h56 hX hbl hG dL_law_264 ?_
        refine x_aload_n 0 dL_law_265 rfl ?_
        refine x_iload_n 3 dL_law_266 rfl ?_
        refine x_iconst 2 dL_law_267 (by decide) ?_
        refine x_iadd dL_law_268 ?_
        obtain ⟨x57, h58, hf⟩ := bnd hf
        refine x_sld h58 hX hbl hG dL_law_269 ?_
        obtain ⟨q59, h60, hf⟩ := bnd hf
        refine x_callVi (rest := []) [.int x55, .int x57] (tX6_hour v1 x55 x57 μ h60) wY_X6_hour wI_X6_hour wS_X6_hour wL_L_36 (grd_p h60) (by decide) rfl rfl (Nat.le_of_ble_eq_true rfl) ⟨Nat.le_of_ble_eq_true rfl, Nat.le_of_ble_eq_true rfl⟩ ⟨Nat.le_of_ble_eq_true rfl, Nat.le_of_ble_eq_true rfl⟩ dL_law_270 ?_
        refine x_aload_n 2 dL_law_273 rfl ?_
        refine x_aload_n 0 dL_law_274 rfl ?_
        refine x_iload_n 3 dL_law_275 rfl ?_
        refine x_iconst 1 dL_law_276 (by decide) ?_
        refine x_iadd dL_law_277 ?_
        obtain ⟨x61, h62, hf⟩ := bnd hf
        refine x_sld h62 hX hbl hG dL_law_278 ?_
        refine x_aload_n 0 dL_law_279 rfl ?_
        refine x_iload_n 3 dL_law_280 rfl ?_
        refine x_iconst 2 dL_law_281 (by decide) ?_
        refine x_iadd dL_law_282 ?_
        obtain ⟨x63, h64, hf⟩ := bnd hf
        refine x_sld h64 hX hbl hG dL_law_283 ?_
        obtain ⟨q65, h66, hf⟩ := bnd hf
        refine x_callVi (rest := [.int q59.1]) [.int x61, .int x63] (tX7_hour v2 x61 x63 q59.2 h66) wY_X7_hour wI_X7_hour wS_X7_hour wL_L_39 (grd_p h66) (by decide) rfl rfl (Nat.le_of_ble_eq_true rfl) ⟨Nat.le_of_ble_eq_true rfl, Nat.le_of_ble_eq_true rfl⟩ ⟨Nat.le_of_ble_eq_true rfl, Nat.le_of_ble_eq_true rfl⟩ dL_law_284 ?_
        refine x_icmp_eq 891 dL_law_287 rfl (fun c67 => ?_) (fun c67 => ?_)
        · rw [if_pos c67] at hf
          refine x_iinc 3 (v3 + 5) [1, 2, 3, 0] dL_law_891 rfl rfl (by decide) (lv' := [(0, .ref b), (1, .ref (gB G + v1)), (2, .ref (gB G + v2)), (3, .int (v3 + 5))]) rfl ?_
          refine x_goto 18 dL_law_894 rfl ?_
          exact ih v1 v2 (v3 + 5) q65.2 hf
        · rw [if_neg c67] at hf
          refine x_iconst 0 dL_law_290 (by decide) ?_
          exact law_no hf hr
      rw [if_neg c54] at hf
      by_cases c68 : (x10 &&& 31) = 6
      · rw [if_pos c68] at hf
        refine x_tableIn 292 dL_law_32 (by rw [c68]; decide) (by rw [c68]; decide) (by rw [c68]; rfl) rfl ?_
        refine x_aload_n 1 dL_law_292 rfl ?_
        refine x_aload_n 0 dL_law_293 rfl ?_
        refine x_iload_n 3 dL_law_294 rfl ?_
        refine x_iconst 1 dL_law_295 (by decide) ?_
        refine x_iadd dL_law_296 ?_
        obtain ⟨x69, h70, hf⟩ := bnd hf
        refine x_sld h70 hX hbl hG dL_law_297 ?_
        refine x_aload_n 0 dL_law_298 rfl ?_
        refine x_iload_n 3 dL_law_299 rfl ?_
        refine x_iconst 2 dL_law_300 (by decide) ?_
        refine x_iadd dL_law_301 ?_
        obtain ⟨x71, h72, hf⟩ := bnd hf
        refine x_sld h72 hX hbl hG dL_law_302 ?_
        obtain ⟨q73, h74, hf⟩ := bnd hf
        refine x_callVi (rest := []) [.int x69, .int x71] (tX6_fits v1 x69 x71 μ h74) wY_X6_fits wI_X6_fits wS_X6_fits wL_L_40 (grd_p h74) (by decide) rfl rfl (Nat.le_of_ble_eq_true rfl) ⟨Nat.le_of_ble_eq_true rfl, Nat.le_of_ble_eq_true rfl⟩ ⟨Nat.le_of_ble_eq_true rfl, Nat.le_of_ble_eq_true rfl⟩ dL_law_303 ?_
        refine x_aload_n 2 dL_law_306 rfl ?_
        refine x_aload_n 0 dL_law_307 rfl ?_
        refine x_iload_n 3 dL_law_308 rfl ?_
        refine x_iconst 1 dL_law_309 (by decide) ?_
        refine x_iadd dL_law_310 ?_
        obtain ⟨x75, h76, hf⟩ := bnd hf
        refine x_sld h76 hX hbl hG dL_law_311 ?_
        refine x_aload_n 0 dL_law_312 rfl ?_
        refine x_iload_n 3 dL_law_313 rfl ?_
        refine x_iconst 2 dL_law_314 (by decide) ?_
        refine x_iadd dL_law_315 ?_
        obtain ⟨x77, h78, hf⟩ := bnd hf
        refine x_sld h78 hX hbl hG dL_law_316 ?_
        obtain ⟨q79, h80, hf⟩ := bnd hf
        refine x_callVi (rest := [.int q73.1]) [.int x75, .int x77] (tX7_fits v2 x75 x77 q73.2 h80) wY_X7_fits wI_X7_fits wS_X7_fits wL_L_43 (grd_p h80) (by decide) rfl rfl (Nat.le_of_ble_eq_true rfl) ⟨Nat.le_of_ble_eq_true rfl, Nat.le_of_ble_eq_true rfl⟩ ⟨Nat.le_of_ble_eq_true rfl, Nat.le_of_ble_eq_true rfl⟩ dL_law_317 ?_
        refine x_icmp_eq 891 dL_law_320 rfl (fun c81 => ?_) (fun c81 => ?_)
        · rw [if_pos c81] at hf
          refine x_iinc 3 (v3 + 5) [1, 2, 3, 0] dL_law_891 rfl rfl (by decide) (lv' := [(0, .ref b), (1, .ref (gB G + v1)), (2, .ref (gB G + v2)), (3, .int (v3 + 5))]) rfl ?_
          refine x_goto 18 dL_law_894 rfl ?_
          exact ih v1 v2 (v3 + 5) q79.2 hf
        · rw [if_neg c81] at hf
          refine x_iconst 0 dL_law_323 (by decide) ?_
          exact law_no hf hr
      rw [if_neg c68] at hf
      by_cases c82 : (x10 &&& 31) = 7
      · rw [if_pos c82] at hf
        refine x_tableIn 325 dL_law_32 (by rw [c82]; decide) (by rw [c82]; decide) (by rw [c82]; rfl) rfl ?_
        refine x_aload_n 1 dL_law_325 rfl ?_
        refine x_aload_n 0 dL_law_326 rfl ?_
        refine x_iload_n 3 dL_law_327 rfl ?_
        refine x_iconst 1 dL_law_328 (by decide) ?_
        refine x_iadd dL_law_329 ?_
        obtain ⟨x83, h84, hf⟩ := bnd hf
        refine x_sld h84 hX hbl hG dL_law_330 ?_
        obtain ⟨q85, h86, hf⟩ := bnd hf
        refine x_callVi (rest := []) [.int x83] (tX6_pass v1 x83 μ h86) wY_X6_pass wI_X6_pass wS_X6_pass wL_L_44 (grd_p h86) (by decide) rfl rfl (Nat.le_of_ble_eq_true rfl) ⟨Nat.le_of_ble_eq_true rfl, Nat.le_of_ble_eq_true rfl⟩ ⟨Nat.le_of_ble_eq_true rfl, Nat.le_of_ble_eq_true rfl⟩ dL_law_331 ?_
        refine x_aload_n 2 dL_law_334 rfl ?_
        refine x_aload_n 0 dL_law_335 rfl ?_
        refine x_iload_n 3 dL_law_336 rfl ?_
        refine x_iconst 1 dL_law_337 (by decide) ?_
        refine x_iadd dL_law_338 ?_
        obtain ⟨x87, h88, hf⟩ := bnd hf
        refine x_sld h88 hX hbl hG dL_law_339 ?_
        obtain ⟨q89, h90, hf⟩ := bnd hf
        refine x_callVi (rest := [.int q85.1]) [.int x87] (tX7_pass v2 x87 q85.2 h90) wY_X7_pass wI_X7_pass wS_X7_pass wL_L_47 (grd_p h90) (by decide) rfl rfl (Nat.le_of_ble_eq_true rfl) ⟨Nat.le_of_ble_eq_true rfl, Nat.le_of_ble_eq_true rfl⟩ ⟨Nat.le_of_ble_eq_true rfl, Nat.le_of_ble_eq_true rfl⟩ dL_law_340 ?_
        refine x_icmp_eq 891 dL_law_343 rfl (fun c91 => ?_) (fun c91 => ?_)
        · rw [if_pos c91] at hf
          refine x_iinc 3 (v3 + 5) [1, 2, 3, 0] dL_law_891 rfl rfl (by decide) (lv' := [(0, .ref b), (1, .ref (gB G + v1)), (2, .ref (gB G + v2)), (3, .int (v3 + 5))]) rfl ?_
          refine x_goto 18 dL_law_894 rfl ?_
          exact ih v1 v2 (v3 + 5) q89.2 hf
        · rw [if_neg c91] at hf
          refine x_iconst 0 dL_law_346 (by decide) ?_
          exact law_no hf hr
      rw [if_neg c82] at hf
      by_cases c92 : (x10 &&& 31) = 8
      · rw [if_pos c92] at hf
        refine x_tableIn 348 dL_law_32 (by rw [c92]; decide) (by rw [c92]; decide) (by rw [c92]; rfl) rfl ?_
        refine x_aload_n 1 dL_law_348 rfl ?_
        refine x_aload_n 0 dL_law_349 rfl ?_
        refine x_iload_n 3 dL_law_350 rfl ?_
        refine x_iconst 1 dL_law_351 (by decide) ?_
        refine x_iadd dL_law_352 ?_
        obtain ⟨x93, h94, hf⟩ := bnd hf
        refine x_sld h94 hX hbl hG dL_law_353 ?_
        refine x_aload_n 0 dL_law_354 rfl ?_
        refine x_iload_n 3 dL_law_355 rfl ?_
        refine x_iconst 2 dL_law_356 (by decide) ?_
        refine x_iadd dL_law_357 ?_
        obtain ⟨x95, h96, hf⟩ := bnd hf
        refine x_sld h96 hX hbl hG dL_law_358 ?_
        obtain ⟨q97, h98, hf⟩ := bnd hf
        refine x_callVi (rest := []) [.int x93, .int x95] (tX6_put v1 x93 x95 μ h98) wY_X6_put wI_X6_put wS_X6_put wL_L_48 (grd_p h98) (by decide) rfl rfl (Nat.le_of_ble_eq_true rfl) ⟨Nat.le_of_ble_eq_true rfl, Nat.le_of_ble_eq_true rfl⟩ ⟨Nat.le_of_ble_eq_true rfl, Nat.le_of_ble_eq_true rfl⟩ dL_law_359 ?_
        refine x_aload_n 2 dL_law_362 rfl ?_
        refine x_aload_n 0 dL_law_363 rfl ?_
        refine x_iload_n 3 dL_law_364 rfl ?_
        refine x_iconst 1 dL_law_365 (by decide) ?_
        refine x_iadd dL_law_366 ?_
        obtain ⟨x99, h100, hf⟩ := bnd hf
        refine x_sld h100 hX hbl hG dL_law_367 ?_
        refine x_aload_n 0 dL_law_368 rfl ?_
        refine x_iload_n 3 dL_law_369 rfl ?_
        refine x_iconst 2 dL_law_370 (by decide) ?_
        refine x_iadd dL_law_371 ?_
        obtain ⟨x101, h102, hf⟩ := bnd hf
        refine x_sld h102 hX hbl hG dL_law_372 ?_
        obtain ⟨q103, h104, hf⟩ := bnd hf
        refine x_callVi (rest := [.int q97.1]) [.int x99, .int x101] (tX7_put v2 x99 x101 q97.2 h104) wY_X7_put wI_X7_put wS_X7_put wL_L_51 (grd_p h104) (by decide) rfl rfl (Nat.le_of_ble_eq_true rfl) ⟨Nat.le_of_ble_eq_true rfl, Nat.le_of_ble_eq_true rfl⟩ ⟨Nat.le_of_ble_eq_true rfl, Nat.le_of_ble_eq_true rfl⟩ dL_law_373 ?_
        refine x_icmp_eq 891 dL_law_376 rfl (fun c105 => ?_) (fun c105 => ?_)
        · rw [if_pos c105] at hf
          refine x_iinc 3 (v3 + 5) [1, 2, 3, 0] dL_law_891 rfl rfl (by decide) (lv' := [(0, .ref b), (1, .ref (gB G + v1)), (2, .ref (gB G + v2)), (3, .int (v3 + 5))]) rfl ?_
          refine x_goto 18 dL_law_894 rfl ?_
          exact ih v1 v2 (v3 + 5) q103.2 hf
        · rw [if_neg c105] at hf
          refine x_iconst 0 dL_law_379 (by decide) ?_
          exact law_no hf hr
      rw [if_neg c92] at hf
      by_cases c106 : (x10 &&& 31) = 9
      · rw [if_pos c106] at hf
        refine x_tableIn 381 dL_law_32 (by rw [c106]; decide) (by rw [c106]; decide) (by rw [c106]; rfl) rfl ?_
        refine x_aload_n 1 dL_law_381 rfl ?_
        refine x_aload_n 0 dL_law_382 rfl ?_
        refine x_iload_n 3 dL_law_383 rfl ?_
        refine x_iconst 1 dL_law_384 (by decide) ?_
        refine x_iadd dL_law_385 ?_
        obtain ⟨x107, h108, hf⟩ := bnd hf
        refine x_sld h108 hX hbl hG dL_law_386 ?_
        obtain ⟨q109, h110, hf⟩ := bnd hf
        refine x_callVi (rest := []) [.int x107] (tX6_up v1 x107 μ h110) wY_X6_up wI_X6_up wS_X6_up wL_L_52 (grd_p h110) (by decide) rfl rfl (Nat.le_of_ble_eq_true rfl) ⟨Nat.le_of_ble_eq_true rfl, Nat.le_of_ble_eq_true rfl⟩ ⟨Nat.le_of_ble_eq_true rfl, Nat.le_of_ble_eq_true rfl⟩ dL_law_387 ?_
        refine x_aload_n 2 dL_law_390 rfl ?_
        refine x_aload_n 0 dL_law_391 rfl ?_
        refine x_iload_n 3 dL_law_392 rfl ?_
        refine x_iconst 1 dL_law_393 (by decide) ?_
        refine x_iadd dL_law_394 ?_
        obtain ⟨x111, h112, hf⟩ := bnd hf
        refine x_sld h112 hX hbl hG dL_law_395 ?_
        obtain ⟨q113, h114, hf⟩ := bnd hf
        refine x_callVi (rest := [.int q109.1]) [.int x111] (tX7_up v2 x111 q109.2 h114) wY_X7_up wI_X7_up wS_X7_up wL_L_55 (grd_p h114) (by decide) rfl rfl (Nat.le_of_ble_eq_true rfl) ⟨Nat.le_of_ble_eq_true rfl, Nat.le_of_ble_eq_true rfl⟩ ⟨Nat.le_of_ble_eq_true rfl, Nat.le_of_ble_eq_true rfl⟩ dL_law_396 ?_
        refine x_icmp_eq 891 dL_law_399 rfl (fun c115 => ?_) (fun c115 => ?_)
        · rw [if_pos c115] at hf
          refine x_iinc 3 (v3 + 5) [1, 2, 3, 0] dL_law_891 rfl rfl (by decide) (lv' := [(0, .ref b), (1, .ref (gB G + v1)), (2, .ref (gB G + v2)), (3, .int (v3 + 5))]) rfl ?_
          refine x_goto 18 dL_law_894 rfl ?_
          exact ih v1 v2 (v3 + 5) q113.2 hf
        · rw [if_neg c115] at hf
          refine x_iconst 0 dL_law_402 (by decide) ?_
          exact law_no hf hr
      rw [if_neg c106] at hf
      by_cases c116 : (x10 &&& 31) = 10
      · rw [if_pos c116] at hf
        refine x_tableIn 404 dL_law_32 (by rw [c116]; decide) (by rw [c116]; decide) (by rw [c116]; rfl) rfl ?_
        refine x_aload_n 1 dL_law_404 rfl ?_
        refine x_aload_n 0 dL_law_405 rfl ?_
        refine x_iload_n 3 dL_law_406 rfl ?_
        refine x_iconst 1 dL_law_407 (by decide) ?_
        refine x_iadd dL_law_408 ?_
        obtain ⟨x117, h118, hf⟩ := bnd hf
        refine x_sld h118 hX hbl hG dL_law_409 ?_
        obtain ⟨q119, h120, hf⟩ := bnd hf
        refine x_callVi (rest := []) [.int x117] (tX6_dig v1 x117 μ h120) wY_X6_dig wI_X6_dig wS_X6_dig wL_L_56 (grd_p h120) (by decide) rfl rfl (Nat.le_of_ble_eq_true rfl) ⟨Nat.le_of_ble_eq_true rfl, Nat.le_of_ble_eq_true rfl⟩ ⟨Nat.le_of_ble_eq_true rfl, Nat.le_of_ble_eq_true rfl⟩ dL_law_410 ?_
        refine x_aload_n 2 dL_law_413 rfl ?_
        refine x_aload_n 0 dL_law_414 rfl ?_
        refine x_iload_n 3 dL_law_415 rfl ?_
        refine x_iconst 1 dL_law_416 (by decide) ?_
        refine x_iadd dL_law_417 ?_
        obtain ⟨x121, h122, hf⟩ := bnd hf
        refine x_sld h122 hX hbl hG dL_law_418 ?_
        obtain ⟨q123, h124, hf⟩ := bnd hf
        refine x_callVi (rest := [.int q119.1]) [.int x121] (tX7_dig v2 x121 q119.2 h124) wY_X7_dig wI_X7_dig wS_X7_dig wL_L_59 (grd_p h124) (by decide) rfl rfl (Nat.le_of_ble_eq_true rfl) ⟨Nat.le_of_ble_eq_true rfl, Nat.le_of_ble_eq_true rfl⟩ ⟨Nat.le_of_ble_eq_true rfl, Nat.le_of_ble_eq_true rfl⟩ dL_law_419 ?_
        refine x_icmp_eq 891 dL_law_422 rfl (fun c125 => ?_) (fun c125 => ?_)
        · rw [if_pos c125] at hf
          refine x_iinc 3 (v3 + 5) [1, 2, 3, 0] dL_law_891 rfl rfl (by decide) (lv' := [(0, .ref b), (1, .ref (gB G + v1)), (2, .ref (gB G + v2)), (3, .int (v3 + 5))]) rfl ?_
          refine x_goto 18 dL_law_894 rfl ?_
          exact ih v1 v2 (v3 + 5) q123.2 hf
        · rw [if_neg c125] at hf
          refine x_iconst 0 dL_law_425 (by decide) ?_
          exact law_no hf hr
      rw [if_neg c116] at hf
      by_cases c126 : (x10 &&& 31) = 11
      · rw [if_pos c126] at hf
        refine x_tableIn 427 dL_law_32 (by rw [c126]; decide) (by rw [c126]; decide) (by rw [c126]; rfl) rfl ?_
        refine x_aload_n 1 dL_law_427 rfl ?_
        obtain ⟨q127, h128, hf⟩ := bnd hf
        refine x_callVi (rest := []) [] (tX6_undo v1  μ h128) wY_X6_undo wI_X6_undo wS_X6_undo wL_L_60 (grd_p h128) (by decide) rfl rfl (Nat.le_of_ble_eq_true rfl) ⟨Nat.le_of_ble_eq_true rfl, Nat.le_of_ble_eq_true rfl⟩ ⟨Nat.le_of_ble_eq_true rfl, Nat.le_of_ble_eq_true rfl⟩ dL_law_428 ?_
        refine x_aload_n 2 dL_law_431 rfl ?_
        obtain ⟨q129, h130, hf⟩ := bnd hf
        refine x_callVi (rest := [.int q127.1]) [] (tX7_undo v2  q127.2 h130) wY_X7_undo wI_X7_undo wS_X7_undo wL_L_63 (grd_p h130) (by decide) rfl rfl (Nat.le_of_ble_eq_true rfl) ⟨Nat.le_of_ble_eq_true rfl, Nat.le_of_ble_eq_true rfl⟩ ⟨Nat.le_of_ble_eq_true rfl, Nat.le_of_ble_eq_true rfl⟩ dL_law_432 ?_
        refine x_icmp_eq 891 dL_law_435 rfl (fun c131 => ?_) (fun c131 => ?_)
        · rw [if_pos c131] at hf
          refine x_iinc 3 (v3 + 5) [1, 2, 3, 0] dL_law_891 rfl rfl (by decide) (lv' := [(0, .ref b), (1, .ref (gB G + v1)), (2, .ref (gB G + v2)), (3, .int (v3 + 5))]) rfl ?_
          refine x_goto 18 dL_law_894 rfl ?_
          exact ih v1 v2 (v3 + 5) q129.2 hf
        · rw [if_neg c131] at hf
          refine x_iconst 0 dL_law_438 (by decide) ?_
          exact law_no hf hr
      rw [if_neg c126] at hf
      by_cases c132 : (x10 &&& 31) = 12
      · rw [if_pos c132] at hf
        refine x_tableIn 440 dL_law_32 (by rw [c132]; decide) (by rw [c132]; decide) (by rw [c132]; rfl) rfl ?_
        refine x_aload_n 1 dL_law_440 rfl ?_
        refine x_aload_n 0 dL_law_441 rfl ?_
        refine x_iload_n 3 dL_law_442 rfl ?_
        refine x_iconst 1 dL_law_443 (by decide) ?_
        refine x_iadd dL_law_444 ?_
        obtain ⟨x133, h134, hf⟩ := bnd hf
        refine x_sld h134 hX hbl hG dL_law_445 ?_
        obtain ⟨q135, h136, hf⟩ := bnd hf
        refine x_callVi (rest := []) [.int x133] (tX6_out v1 x133 μ h136) wY_X6_out wI_X6_out wS_X6_out wL_L_64 (grd_p h136) (by decide) rfl rfl (Nat.le_of_ble_eq_true rfl) ⟨Nat.le_of_ble_eq_true rfl, Nat.le_of_ble_eq_true rfl⟩ ⟨Nat.le_of_ble_eq_true rfl, Nat.le_of_ble_eq_true rfl⟩ dL_law_446 ?_
        refine x_aload_n 2 dL_law_449 rfl ?_
        refine x_aload_n 0 dL_law_450 rfl ?_
        refine x_iload_n 3 dL_law_451 rfl ?_
        refine x_iconst 1 dL_law_452 (by decide) ?_
        refine x_iadd dL_law_453 ?_
        obtain ⟨x137, h138, hf⟩ := bnd hf
        refine x_sld h138 hX hbl hG dL_law_454 ?_
        obtain ⟨q139, h140, hf⟩ := bnd hf
        refine x_callVi (rest := [.int q135.1]) [.int x137] (tX7_out v2 x137 q135.2 h140) wY_X7_out wI_X7_out wS_X7_out wL_L_67 (grd_p h140) (by decide) rfl rfl (Nat.le_of_ble_eq_true rfl) ⟨Nat.le_of_ble_eq_true rfl, Nat.le_of_ble_eq_true rfl⟩ ⟨Nat.le_of_ble_eq_true rfl, Nat.le_of_ble_eq_true rfl⟩ dL_law_455 ?_
        refine x_icmp_eq 891 dL_law_458 rfl (fun c141 => ?_) (fun c141 => ?_)
        · rw [if_pos c141] at hf
          refine x_iinc 3 (v3 + 5) [1, 2, 3, 0] dL_law_891 rfl rfl (by decide) (lv' := [(0, .ref b), (1, .ref (gB G + v1)), (2, .ref (gB G + v2)), (3, .int (v3 + 5))]) rfl ?_
          refine x_goto 18 dL_law_894 rfl ?_
          exact ih v1 v2 (v3 + 5) q139.2 hf
        · rw [if_neg c141] at hf
          refine x_iconst 0 dL_law_461 (by decide) ?_
          exact law_no hf hr
      rw [if_neg c132] at hf
      by_cases c142 : (x10 &&& 31) = 13
      · rw [if_pos c142] at hf
        refine x_tableIn 463 dL_law_32 (by rw [c142]; decide) (by rw [c142]; decide) (by rw [c142]; rfl) rfl ?_
        refine x_aload_n 1 dL_law_463 rfl ?_
        refine x_aload_n 0 dL_law_464 rfl ?_
        refine x_iload_n 3 dL_law_465 rfl ?_
        refine x_iconst 1 dL_law_466 (by decide) ?_
        refine x_iadd dL_law_467 ?_
        obtain ⟨x143, h144, hf⟩ := bnd hf
        refine x_sld h144 hX hbl hG dL_law_468 ?_
        refine x_aload_n 0 dL_law_469 rfl ?_
        refine x_iload_n 3 dL_law_470 rfl ?_
        refine x_iconst 2 dL_law_471 (by decide) ?_
        refine x_iadd dL_law_472 ?_
        obtain ⟨x145, h146, hf⟩ := bnd hf
        refine x_sld h146 hX hbl hG dL_law_473 ?_
        obtain ⟨q147, h148, hf⟩ := bnd hf
        refine x_callVi (rest := []) [.int x143, .int x145] (tX6_behind v1 x143 x145 μ h148) wY_X6_behind wI_X6_behind wS_X6_behind wL_L_68 (grd_p h148) (by decide) rfl rfl (Nat.le_of_ble_eq_true rfl) ⟨Nat.le_of_ble_eq_true rfl, Nat.le_of_ble_eq_true rfl⟩ ⟨Nat.le_of_ble_eq_true rfl, Nat.le_of_ble_eq_true rfl⟩ dL_law_474 ?_
        refine x_aload_n 2 dL_law_477 rfl ?_
        refine x_aload_n 0 dL_law_478 rfl ?_
        refine x_iload_n 3 dL_law_479 rfl ?_
        refine x_iconst 1 dL_law_480 (by decide) ?_
        refine x_iadd dL_law_481 ?_
        obtain ⟨x149, h150, hf⟩ := bnd hf
        refine x_sld h150 hX hbl hG dL_law_482 ?_
        refine x_aload_n 0 dL_law_483 rfl ?_
        refine x_iload_n 3 dL_law_484 rfl ?_
        refine x_iconst 2 dL_law_485 (by decide) ?_
        refine x_iadd dL_law_486 ?_
        obtain ⟨x151, h152, hf⟩ := bnd hf
        refine x_sld h152 hX hbl hG dL_law_487 ?_
        obtain ⟨q153, h154, hf⟩ := bnd hf
        refine x_callVi (rest := [.int q147.1]) [.int x149, .int x151] (tX7_behind v2 x149 x151 q147.2 h154) wY_X7_behind wI_X7_behind wS_X7_behind wL_L_71 (grd_p h154) (by decide) rfl rfl (Nat.le_of_ble_eq_true rfl) ⟨Nat.le_of_ble_eq_true rfl, Nat.le_of_ble_eq_true rfl⟩ ⟨Nat.le_of_ble_eq_true rfl, Nat.le_of_ble_eq_true rfl⟩ dL_law_488 ?_
        refine x_icmp_eq 891 dL_law_491 rfl (fun c155 => ?_) (fun c155 => ?_)
        · rw [if_pos c155] at hf
          refine x_iinc 3 (v3 + 5) [1, 2, 3, 0] dL_law_891 rfl rfl (by decide) (lv' := [(0, .ref b), (1, .ref (gB G + v1)), (2, .ref (gB G + v2)), (3, .int (v3 + 5))]) rfl ?_
          refine x_goto 18 dL_law_894 rfl ?_
          exact ih v1 v2 (v3 + 5) q153.2 hf
        · rw [if_neg c155] at hf
          refine x_iconst 0 dL_law_494 (by decide) ?_
          exact law_no hf hr
      rw [if_neg c142] at hf
      by_cases c156 : (x10 &&& 31) = 14
      · rw [if_pos c156] at hf
        refine x_tableIn 496 dL_law_32 (by rw [c156]; decide) (by rw [c156]; decide) (by rw [c156]; rfl) rfl ?_
        refine x_aload_n 1 dL_law_496 rfl ?_
        refine x_aload_n 0 dL_law_497 rfl ?_
        refine x_iload_n 3 dL_law_498 rfl ?_
        refine x_iconst 1 dL_law_499 (by decide) ?_
        refine x_iadd dL_law_500 ?_
        obtain ⟨x157, h158, hf⟩ := bnd hf
        refine x_sld h158 hX hbl hG dL_law_501 ?_
        obtain ⟨q159, h160, hf⟩ := bnd hf
        refine x_callVi (rest := []) [.int x157] (tX6_above v1 x157 μ h160) wY_X6_above wI_X6_above wS_X6_above wL_L_72 (grd_p h160) (by decide) rfl rfl (Nat.le_of_ble_eq_true rfl) ⟨Nat.le_of_ble_eq_true rfl, Nat.le_of_ble_eq_true rfl⟩ ⟨Nat.le_of_ble_eq_true rfl, Nat.le_of_ble_eq_true rfl⟩ dL_law_502 ?_
        refine x_aload_n 2 dL_law_505 rfl ?_
        refine x_aload_n 0 dL_law_506 rfl ?_
        refine x_iload_n 3 dL_law_507 rfl ?_
        refine x_iconst 1 dL_law_508 (by decide) ?_
        refine x_iadd dL_law_509 ?_
        obtain ⟨x161, h162, hf⟩ := bnd hf
        refine x_sld h162 hX hbl hG dL_law_510 ?_
        obtain ⟨q163, h164, hf⟩ := bnd hf
        refine x_callVi (rest := [.int q159.1]) [.int x161] (tX7_above v2 x161 q159.2 h164) wY_X7_above wI_X7_above wS_X7_above wL_L_75 (grd_p h164) (by decide) rfl rfl (Nat.le_of_ble_eq_true rfl) ⟨Nat.le_of_ble_eq_true rfl, Nat.le_of_ble_eq_true rfl⟩ ⟨Nat.le_of_ble_eq_true rfl, Nat.le_of_ble_eq_true rfl⟩ dL_law_511 ?_
        refine x_icmp_eq 891 dL_law_514 rfl (fun c165 => ?_) (fun c165 => ?_)
        · rw [if_pos c165] at hf
          refine x_iinc 3 (v3 + 5) [1, 2, 3, 0] dL_law_891 rfl rfl (by decide) (lv' := [(0, .ref b), (1, .ref (gB G + v1)), (2, .ref (gB G + v2)), (3, .int (v3 + 5))]) rfl ?_
          refine x_goto 18 dL_law_894 rfl ?_
          exact ih v1 v2 (v3 + 5) q163.2 hf
        · rw [if_neg c165] at hf
          refine x_iconst 0 dL_law_517 (by decide) ?_
          exact law_no hf hr
      rw [if_neg c156] at hf
      by_cases c166 : (x10 &&& 31) = 15
      · rw [if_pos c166] at hf
        refine x_tableIn 519 dL_law_32 (by rw [c166]; decide) (by rw [c166]; decide) (by rw [c166]; rfl) rfl ?_
        refine x_aload_n 1 dL_law_519 rfl ?_
        refine x_aload_n 0 dL_law_520 rfl ?_
        refine x_iload_n 3 dL_law_521 rfl ?_
        refine x_iconst 1 dL_law_522 (by decide) ?_
        refine x_iadd dL_law_523 ?_
        obtain ⟨x167, h168, hf⟩ := bnd hf
        refine x_sld h168 hX hbl hG dL_law_524 ?_
        obtain ⟨q169, h170, hf⟩ := bnd hf
        refine x_callVi (rest := []) [.int x167] (tX6_packs v1 x167 μ h170) wY_X6_packs wI_X6_packs wS_X6_packs wL_L_76 (grd_p h170) (by decide) rfl rfl (Nat.le_of_ble_eq_true rfl) ⟨Nat.le_of_ble_eq_true rfl, Nat.le_of_ble_eq_true rfl⟩ ⟨Nat.le_of_ble_eq_true rfl, Nat.le_of_ble_eq_true rfl⟩ dL_law_525 ?_
        refine x_aload_n 2 dL_law_528 rfl ?_
        refine x_aload_n 0 dL_law_529 rfl ?_
        refine x_iload_n 3 dL_law_530 rfl ?_
        refine x_iconst 1 dL_law_531 (by decide) ?_
        refine x_iadd dL_law_532 ?_
        obtain ⟨x171, h172, hf⟩ := bnd hf
        refine x_sld h172 hX hbl hG dL_law_533 ?_
        obtain ⟨q173, h174, hf⟩ := bnd hf
        refine x_callVi (rest := [.int q169.1]) [.int x171] (tX7_packs v2 x171 q169.2 h174) wY_X7_packs wI_X7_packs wS_X7_packs wL_L_79 (grd_p h174) (by decide) rfl rfl (Nat.le_of_ble_eq_true rfl) ⟨Nat.le_of_ble_eq_true rfl, Nat.le_of_ble_eq_true rfl⟩ ⟨Nat.le_of_ble_eq_true rfl, Nat.le_of_ble_eq_true rfl⟩ dL_law_534 ?_
        refine x_icmp_eq 891 dL_law_537 rfl (fun c175 => ?_) (fun c175 => ?_)
        · rw [if_pos c175] at hf
          refine x_iinc 3 (v3 + 5) [1, 2, 3, 0] dL_law_891 rfl rfl (by decide) (lv' := [(0, .ref b), (1, .ref (gB G + v1)), (2, .ref (gB G + v2)), (3, .int (v3 + 5))]) rfl ?_
          refine x_goto 18 dL_law_894 rfl ?_
          exact ih v1 v2 (v3 + 5) q173.2 hf
        · rw [if_neg c175] at hf
          refine x_iconst 0 dL_law_540 (by decide) ?_
          exact law_no hf hr
      rw [if_neg c166] at hf
      by_cases c176 : (x10 &&& 31) = 16
      · rw [if_pos c176] at hf
        refine x_tableIn 542 dL_law_32 (by rw [c176]; decide) (by rw [c176]; decide) (by rw [c176]; rfl) rfl ?_
        refine x_aload_n 1 dL_law_542 rfl ?_
        refine x_aload_n 0 dL_law_543 rfl ?_
        refine x_iload_n 3 dL_law_544 rfl ?_
        refine x_iconst 1 dL_law_545 (by decide) ?_
        refine x_iadd dL_law_546 ?_
        obtain ⟨x177, h178, hf⟩ := bnd hf
        refine x_sld h178 hX hbl hG dL_law_547 ?_
        obtain ⟨q179, h180, hf⟩ := bnd hf
        refine x_callVi (rest := []) [.int x177] (tX6_stir v1 x177 μ h180) wY_X6_stir wI_X6_stir wS_X6_stir wL_L_80 (grd_p h180) (by decide) rfl rfl (Nat.le_of_ble_eq_true rfl) ⟨Nat.le_of_ble_eq_true rfl, Nat.le_of_ble_eq_true rfl⟩ ⟨Nat.le_of_ble_eq_true rfl, Nat.le_of_ble_eq_true rfl⟩ dL_law_548 ?_
        refine x_aload_n 2 dL_law_551 rfl ?_
        refine x_aload_n 0 dL_law_552 rfl ?_
        refine x_iload_n 3 dL_law_553 rfl ?_
        refine x_iconst 1 dL_law_554 (by decide) ?_
        refine x_iadd dL_law_555 ?_
        obtain ⟨x181, h182, hf⟩ := bnd hf
        refine x_sld h182 hX hbl hG dL_law_556 ?_
        obtain ⟨q183, h184, hf⟩ := bnd hf
        refine x_callVi (rest := [.int q179.1]) [.int x181] (tX7_stir v2 x181 q179.2 h184) wY_X7_stir wI_X7_stir wS_X7_stir wL_L_83 (grd_p h184) (by decide) rfl rfl (Nat.le_of_ble_eq_true rfl) ⟨Nat.le_of_ble_eq_true rfl, Nat.le_of_ble_eq_true rfl⟩ ⟨Nat.le_of_ble_eq_true rfl, Nat.le_of_ble_eq_true rfl⟩ dL_law_557 ?_
        refine x_icmp_eq 891 dL_law_560 rfl (fun c185 => ?_) (fun c185 => ?_)
        · rw [if_pos c185] at hf
          refine x_iinc 3 (v3 + 5) [1, 2, 3, 0] dL_law_891 rfl rfl (by decide) (lv' := [(0, .ref b), (1, .ref (gB G + v1)), (2, .ref (gB G + v2)), (3, .int (v3 + 5))]) rfl ?_
          refine x_goto 18 dL_law_894 rfl ?_
          exact ih v1 v2 (v3 + 5) q183.2 hf
        · rw [if_neg c185] at hf
          refine x_iconst 0 dL_law_563 (by decide) ?_
          exact law_no hf hr
      rw [if_neg c176] at hf
      by_cases c186 : (x10 &&& 31) = 17
      · rw [if_pos c186] at hf
        refine x_tableIn 565 dL_law_32 (by rw [c186]; decide) (by rw [c186]; decide) (by rw [c186]; rfl) rfl ?_
        refine x_aload_n 1 dL_law_565 rfl ?_
        refine x_aload_n 0 dL_law_566 rfl ?_
        refine x_iload_n 3 dL_law_567 rfl ?_
        refine x_iconst 1 dL_law_568 (by decide) ?_
        refine x_iadd dL_law_569 ?_
        obtain ⟨x187, h188, hf⟩ := bnd hf
        refine x_sld h188 hX hbl hG dL_law_570 ?_
        refine x_aload_n 0 dL_law_571 rfl ?_
        refine x_iload_n 3 dL_law_572 rfl ?_
        refine x_iconst 2 dL_law_573 (by decide) ?_
        refine x_iadd dL_law_574 ?_
        obtain ⟨x189, h190, hf⟩ := bnd hf
        refine x_sld h190 hX hbl hG dL_law_575 ?_
        obtain ⟨q191, h192, hf⟩ := bnd hf
        refine x_callVi (rest := []) [.int x187, .int x189] (tX6_cheap v1 x187 x189 μ h192) wY_X6_cheap wI_X6_cheap wS_X6_cheap wL_L_84 (grd_p h192) (by decide) rfl rfl (Nat.le_of_ble_eq_true rfl) ⟨Nat.le_of_ble_eq_true rfl, Nat.le_of_ble_eq_true rfl⟩ ⟨Nat.le_of_ble_eq_true rfl, Nat.le_of_ble_eq_true rfl⟩ dL_law_576 ?_
        refine x_aload_n 2 dL_law_579 rfl ?_
        refine x_aload_n 0 dL_law_580 rfl ?_
        refine x_iload_n 3 dL_law_581 rfl ?_
        refine x_iconst 1 dL_law_582 (by decide) ?_
        refine x_iadd dL_law_583 ?_
        obtain ⟨x193, h194, hf⟩ := bnd hf
        refine x_sld h194 hX hbl hG dL_law_584 ?_
        refine x_aload_n 0 dL_law_585 rfl ?_
        refine x_iload_n 3 dL_law_586 rfl ?_
        refine x_iconst 2 dL_law_587 (by decide) ?_
        refine x_iadd dL_law_588 ?_
        obtain ⟨x195, h196, hf⟩ := bnd hf
        refine x_sld h196 hX hbl hG dL_law_589 ?_
        obtain ⟨q197, h198, hf⟩ := bnd hf
        refine x_callVi (rest := [.int q191.1]) [.int x193, .int x195] (tX7_cheap v2 x193 x195 q191.2 h198) wY_X7_cheap wI_X7_cheap wS_X7_cheap wL_L_87 (grd_p h198) (by decide) rfl rfl (Nat.le_of_ble_eq_true rfl) ⟨Nat.le_of_ble_eq_true rfl, Nat.le_of_ble_eq_true rfl⟩ ⟨Nat.le_of_ble_eq_true rfl, Nat.le_of_ble_eq_true rfl⟩ dL_law_590 ?_
        refine x_icmp_eq 891 dL_law_593 rfl (fun c199 => ?_) (fun c199 => ?_)
        · rw [if_pos c199] at hf
          refine x_iinc 3 (v3 + 5) [1, 2, 3, 0] dL_law_891 rfl rfl (by decide) (lv' := [(0, .ref b), (1, .ref (gB G + v1)), (2, .ref (gB G + v2)), (3, .int (v3 + 5))]) rfl ?_
          refine x_goto 18 dL_law_894 rfl ?_
          exact ih v1 v2 (v3 + 5) q197.2 hf
        · rw [if_neg c199] at hf
          refine x_iconst 0 dL_law_596 (by decide) ?_
          exact law_no hf hr
      rw [if_neg c186] at hf
      by_cases c200 : (x10 &&& 31) = 18
      · rw [if_pos c200] at hf
        refine x_tableIn 598 dL_law_32 (by rw [c200]; decide) (by rw [c200]; decide) (by rw [c200]; rfl) rfl ?_
        refine x_aload_n 1 dL_law_598 rfl ?_
        refine x_aload_n 0 dL_law_599 rfl ?_
        refine x_iload_n 3 dL_law_600 rfl ?_
        refine x_iconst 1 dL_law_601 (by decide) ?_
        refine x_iadd dL_law_602 ?_
        obtain ⟨x201, h202, hf⟩ := bnd hf
        refine x_sld h202 hX hbl hG dL_law_603 ?_
        obtain ⟨q203, h204, hf⟩ := bnd hf
        refine x_callVi (rest := []) [.int x201] (tX6_deeper v1 x201 μ h204) wY_X6_deeper wI_X6_deeper wS_X6_deeper wL_L_88 (grd_p h204) (by decide) rfl rfl (Nat.le_of_ble_eq_true rfl) ⟨Nat.le_of_ble_eq_true rfl, Nat.le_of_ble_eq_true rfl⟩ ⟨Nat.le_of_ble_eq_true rfl, Nat.le_of_ble_eq_true rfl⟩ dL_law_604 ?_
        refine x_aload_n 2 dL_law_607 rfl ?_
        refine x_aload_n 0 dL_law_608 rfl ?_
        refine x_iload_n 3 dL_law_609 rfl ?_
        refine x_iconst 1 dL_law_610 (by decide) ?_
        refine x_iadd dL_law_611 ?_
        obtain ⟨x205, h206, hf⟩ := bnd hf
        refine x_sld h206 hX hbl hG dL_law_612 ?_
        obtain ⟨q207, h208, hf⟩ := bnd hf
        refine x_callVi (rest := [.int q203.1]) [.int x205] (tX7_deeper v2 x205 q203.2 h208) wY_X7_deeper wI_X7_deeper wS_X7_deeper wL_L_91 (grd_p h208) (by decide) rfl rfl (Nat.le_of_ble_eq_true rfl) ⟨Nat.le_of_ble_eq_true rfl, Nat.le_of_ble_eq_true rfl⟩ ⟨Nat.le_of_ble_eq_true rfl, Nat.le_of_ble_eq_true rfl⟩ dL_law_613 ?_
        refine x_icmp_eq 891 dL_law_616 rfl (fun c209 => ?_) (fun c209 => ?_)
        · rw [if_pos c209] at hf
          refine x_iinc 3 (v3 + 5) [1, 2, 3, 0] dL_law_891 rfl rfl (by decide) (lv' := [(0, .ref b), (1, .ref (gB G + v1)), (2, .ref (gB G + v2)), (3, .int (v3 + 5))]) rfl ?_
          refine x_goto 18 dL_law_894 rfl ?_
          exact ih v1 v2 (v3 + 5) q207.2 hf
        · rw [if_neg c209] at hf
          refine x_iconst 0 dL_law_619 (by decide) ?_
          exact law_no hf hr
      rw [if_neg c200] at hf
      by_cases c210 : (x10 &&& 31) = 19
      · rw [if_pos c210] at hf
        refine x_tableIn 621 dL_law_32 (by rw [c210]; decide) (by rw [c210]; decide) (by rw [c210]; rfl) rfl ?_
        refine x_aload_n 1 dL_law_621 rfl ?_
        refine x_aload_n 0 dL_law_622 rfl ?_
        refine x_iload_n 3 dL_law_623 rfl ?_
        refine x_iconst 1 dL_law_624 (by decide) ?_
        refine x_iadd dL_law_625 ?_
        obtain ⟨x211, h212, hf⟩ := bnd hf
        refine x_sld h212 hX hbl hG dL_law_626 ?_
        obtain ⟨q213, h214, hf⟩ := bnd hf
        refine x_callVi (rest := []) [.int x211] (tX6_years v1 x211 μ h214) wY_X6_years wI_X6_years wS_X6_years wL_L_92 (grd_p h214) (by decide) rfl rfl (Nat.le_of_ble_eq_true rfl) ⟨Nat.le_of_ble_eq_true rfl, Nat.le_of_ble_eq_true rfl⟩ ⟨Nat.le_of_ble_eq_true rfl, Nat.le_of_ble_eq_true rfl⟩ dL_law_627 ?_
        refine x_aload_n 2 dL_law_630 rfl ?_
        refine x_aload_n 0 dL_law_631 rfl ?_
        refine x_iload_n 3 dL_law_632 rfl ?_
        refine x_iconst 1 dL_law_633 (by decide) ?_
        refine x_iadd dL_law_634 ?_
        obtain ⟨x215, h216, hf⟩ := bnd hf
        refine x_sld h216 hX hbl hG dL_law_635 ?_
        obtain ⟨q217, h218, hf⟩ := bnd hf
        refine x_callVi (rest := [.int q213.1]) [.int x215] (tX7_years v2 x215 q213.2 h218) wY_X7_years wI_X7_years wS_X7_years wL_L_95 (grd_p h218) (by decide) rfl rfl (Nat.le_of_ble_eq_true rfl) ⟨Nat.le_of_ble_eq_true rfl, Nat.le_of_ble_eq_true rfl⟩ ⟨Nat.le_of_ble_eq_true rfl, Nat.le_of_ble_eq_true rfl⟩ dL_law_636 ?_
        refine x_icmp_eq 891 dL_law_639 rfl (fun c219 => ?_) (fun c219 => ?_)
        · rw [if_pos c219] at hf
          refine x_iinc 3 (v3 + 5) [1, 2, 3, 0] dL_law_891 rfl rfl (by decide) (lv' := [(0, .ref b), (1, .ref (gB G + v1)), (2, .ref (gB G + v2)), (3, .int (v3 + 5))]) rfl ?_
          refine x_goto 18 dL_law_894 rfl ?_
          exact ih v1 v2 (v3 + 5) q217.2 hf
        · rw [if_neg c219] at hf
          refine x_iconst 0 dL_law_642 (by decide) ?_
          exact law_no hf hr
      rw [if_neg c210] at hf
      by_cases c220 : (x10 &&& 31) = 20
      · rw [if_pos c220] at hf
        refine x_tableIn 644 dL_law_32 (by rw [c220]; decide) (by rw [c220]; decide) (by rw [c220]; rfl) rfl ?_
        refine x_aload_n 1 dL_law_644 rfl ?_
        refine x_aload_n 0 dL_law_645 rfl ?_
        refine x_iload_n 3 dL_law_646 rfl ?_
        refine x_iconst 1 dL_law_647 (by decide) ?_
        refine x_iadd dL_law_648 ?_
        obtain ⟨x221, h222, hf⟩ := bnd hf
        refine x_sld h222 hX hbl hG dL_law_649 ?_
        refine x_aload_n 0 dL_law_650 rfl ?_
        refine x_iload_n 3 dL_law_651 rfl ?_
        refine x_iconst 2 dL_law_652 (by decide) ?_
        refine x_iadd dL_law_653 ?_
        obtain ⟨x223, h224, hf⟩ := bnd hf
        refine x_sld h224 hX hbl hG dL_law_654 ?_
        refine x_aload_n 0 dL_law_655 rfl ?_
        refine x_iload_n 3 dL_law_656 rfl ?_
        refine x_iconst 3 dL_law_657 (by decide) ?_
        refine x_iadd dL_law_658 ?_
        obtain ⟨x225, h226, hf⟩ := bnd hf
        refine x_sld h226 hX hbl hG dL_law_659 ?_
        obtain ⟨q227, h228, hf⟩ := bnd hf
        refine x_callVi (rest := []) [.int x221, .int x223, .int x225] (tX6_seen v1 x221 x223 x225 μ h228) wY_X6_seen wI_X6_seen wS_X6_seen wL_L_96 (grd_p h228) (by decide) rfl rfl (Nat.le_of_ble_eq_true rfl) ⟨Nat.le_of_ble_eq_true rfl, Nat.le_of_ble_eq_true rfl⟩ ⟨Nat.le_of_ble_eq_true rfl, Nat.le_of_ble_eq_true rfl⟩ dL_law_660 ?_
        refine x_aload_n 2 dL_law_663 rfl ?_
        refine x_aload_n 0 dL_law_664 rfl ?_
        refine x_iload_n 3 dL_law_665 rfl ?_
        refine x_iconst 1 dL_law_666 (by decide) ?_
        refine x_iadd dL_law_667 ?_
        obtain ⟨x229, h230, hf⟩ := bnd hf
        refine x_sld h230 hX hbl hG dL_law_668 ?_
        refine x_aload_n 0 dL_law_669 rfl ?_
        refine x_iload_n 3 dL_law_670 rfl ?_
        refine x_iconst 2 dL_law_671 (by decide) ?_
        refine x_iadd dL_law_672 ?_
        obtain ⟨x231, h232, hf⟩ := bnd hf
        refine x_sld h232 hX hbl hG dL_law_673 ?_
        refine x_aload_n 0 dL_law_674 rfl ?_
        refine x_iload_n 3 dL_law_675 rfl ?_
        refine x_iconst 3 dL_law_676 (by decide) ?_
        refine x_iadd dL_law_677 ?_
        obtain ⟨x233, h234, hf⟩ := bnd hf
        refine x_sld h234 hX hbl hG dL_law_678 ?_
        obtain ⟨q235, h236, hf⟩ := bnd hf
        refine x_callVi (rest := [.int q227.1]) [.int x229, .int x231, .int x233] (tX7_seen v2 x229 x231 x233 q227.2 h236) wY_X7_seen wI_X7_seen wS_X7_seen wL_L_100 (grd_p h236) (by decide) rfl rfl (Nat.le_of_ble_eq_true rfl) ⟨Nat.le_of_ble_eq_true rfl, Nat.le_of_ble_eq_true rfl⟩ ⟨Nat.le_of_ble_eq_true rfl, Nat.le_of_ble_eq_true rfl⟩ dL_law_679 ?_
        refine x_icmp_eq 891 dL_law_682 rfl (fun c237 => ?_) (fun c237 => ?_)
        · rw [if_pos c237] at hf
          refine x_iinc 3 (v3 + 5) [1, 2, 3, 0] dL_law_891 rfl rfl (by decide) (lv' := [(0, .ref b), (1, .ref (gB G + v1)), (2, .ref (gB G + v2)), (3, .int (v3 + 5))]) rfl ?_
          refine x_goto 18 dL_law_894 rfl ?_
          exact ih v1 v2 (v3 + 5) q235.2 hf
        · rw [if_neg c237] at hf
          refine x_iconst 0 dL_law_685 (by decide) ?_
          exact law_no hf hr
      rw [if_neg c220] at hf
      by_cases c238 : (x10 &&& 31) = 21
      · rw [if_pos c238] at hf
        refine x_tableIn 687 dL_law_32 (by rw [c238]; decide) (by rw [c238]; decide) (by rw [c238]; rfl) rfl ?_
        refine x_aload_n 1 dL_law_687 rfl ?_
        obtain ⟨q239, h240, hf⟩ := bnd hf
        refine x_callVi (rest := []) [] (tX6_forget v1  μ h240) wY_X6_forget wI_X6_forget wS_X6_forget wL_L_101 (grd_p h240) (by decide) rfl rfl (Nat.le_of_ble_eq_true rfl) ⟨Nat.le_of_ble_eq_true rfl, Nat.le_of_ble_eq_true rfl⟩ ⟨Nat.le_of_ble_eq_true rfl, Nat.le_of_ble_eq_true rfl⟩ dL_law_688 ?_
        refine x_aload_n 2 dL_law_691 rfl ?_
        obtain ⟨q241, h242, hf⟩ := bnd hf
        refine x_callVi (rest := [.int q239.1]) [] (tX7_forget v2  q239.2 h242) wY_X7_forget wI_X7_forget wS_X7_forget wL_L_104 (grd_p h242) (by decide) rfl rfl (Nat.le_of_ble_eq_true rfl) ⟨Nat.le_of_ble_eq_true rfl, Nat.le_of_ble_eq_true rfl⟩ ⟨Nat.le_of_ble_eq_true rfl, Nat.le_of_ble_eq_true rfl⟩ dL_law_692 ?_
        refine x_icmp_eq 891 dL_law_695 rfl (fun c243 => ?_) (fun c243 => ?_)
        · rw [if_pos c243] at hf
          refine x_iinc 3 (v3 + 5) [1, 2, 3, 0] dL_law_891 rfl rfl (by decide) (lv' := [(0, .ref b), (1, .ref (gB G + v1)), (2, .ref (gB G + v2)), (3, .int (v3 + 5))]) rfl ?_
          refine x_goto 18 dL_law_894 rfl ?_
          exact ih v1 v2 (v3 + 5) q241.2 hf
        · rw [if_neg c243] at hf
          refine x_iconst 0 dL_law_698 (by decide) ?_
          exact law_no hf hr
      rw [if_neg c238] at hf
      by_cases c244 : (x10 &&& 31) = 22
      · rw [if_pos c244] at hf
        refine x_tableIn 700 dL_law_32 (by rw [c244]; decide) (by rw [c244]; decide) (by rw [c244]; rfl) rfl ?_
        refine x_aload_n 1 dL_law_700 rfl ?_
        refine x_aload_n 0 dL_law_701 rfl ?_
        refine x_iload_n 3 dL_law_702 rfl ?_
        refine x_iconst 1 dL_law_703 (by decide) ?_
        refine x_iadd dL_law_704 ?_
        obtain ⟨x245, h246, hf⟩ := bnd hf
        refine x_sld h246 hX hbl hG dL_law_705 ?_
        obtain ⟨q247, h248, hf⟩ := bnd hf
        refine x_callVi (rest := []) [.int x245] (tX6_plots v1 x245 μ h248) wY_X6_plots wI_X6_plots wS_X6_plots wL_L_105 (grd_p h248) (by decide) rfl rfl (Nat.le_of_ble_eq_true rfl) ⟨Nat.le_of_ble_eq_true rfl, Nat.le_of_ble_eq_true rfl⟩ ⟨Nat.le_of_ble_eq_true rfl, Nat.le_of_ble_eq_true rfl⟩ dL_law_706 ?_
        refine x_aload_n 2 dL_law_709 rfl ?_
        refine x_aload_n 0 dL_law_710 rfl ?_
        refine x_iload_n 3 dL_law_711 rfl ?_
        refine x_iconst 1 dL_law_712 (by decide) ?_
        refine x_iadd dL_law_713 ?_
        obtain ⟨x249, h250, hf⟩ := bnd hf
        refine x_sld h250 hX hbl hG dL_law_714 ?_
        obtain ⟨q251, h252, hf⟩ := bnd hf
        refine x_callVi (rest := [.int q247.1]) [.int x249] (tX7_plots v2 x249 q247.2 h252) wY_X7_plots wI_X7_plots wS_X7_plots wL_L_108 (grd_p h252) (by decide) rfl rfl (Nat.le_of_ble_eq_true rfl) ⟨Nat.le_of_ble_eq_true rfl, Nat.le_of_ble_eq_true rfl⟩ ⟨Nat.le_of_ble_eq_true rfl, Nat.le_of_ble_eq_true rfl⟩ dL_law_715 ?_
        refine x_icmp_eq 891 dL_law_718 rfl (fun c253 => ?_) (fun c253 => ?_)
        · rw [if_pos c253] at hf
          refine x_iinc 3 (v3 + 5) [1, 2, 3, 0] dL_law_891 rfl rfl (by decide) (lv' := [(0, .ref b), (1, .ref (gB G + v1)), (2, .ref (gB G + v2)), (3, .int (v3 + 5))]) rfl ?_
          refine x_goto 18 dL_law_894 rfl ?_
          exact ih v1 v2 (v3 + 5) q251.2 hf
        · rw [if_neg c253] at hf
          refine x_iconst 0 dL_law_721 (by decide) ?_
          exact law_no hf hr
      rw [if_neg c244] at hf
      by_cases c254 : (x10 &&& 31) = 23
      · rw [if_pos c254] at hf
        refine x_tableIn 723 dL_law_32 (by rw [c254]; decide) (by rw [c254]; decide) (by rw [c254]; rfl) rfl ?_
        refine x_aload_n 1 dL_law_723 rfl ?_
        refine x_aload_n 0 dL_law_724 rfl ?_
        refine x_iload_n 3 dL_law_725 rfl ?_
        refine x_iconst 1 dL_law_726 (by decide) ?_
        refine x_iadd dL_law_727 ?_
        obtain ⟨x255, h256, hf⟩ := bnd hf
        refine x_sld h256 hX hbl hG dL_law_728 ?_
        obtain ⟨q257, h258, hf⟩ := bnd hf
        refine x_callVi (rest := []) [.int x255] (tX6_kinds v1 x255 μ h258) wY_X6_kinds wI_X6_kinds wS_X6_kinds wL_L_109 (grd_p h258) (by decide) rfl rfl (Nat.le_of_ble_eq_true rfl) ⟨Nat.le_of_ble_eq_true rfl, Nat.le_of_ble_eq_true rfl⟩ ⟨Nat.le_of_ble_eq_true rfl, Nat.le_of_ble_eq_true rfl⟩ dL_law_729 ?_
        refine x_aload_n 2 dL_law_732 rfl ?_
        refine x_aload_n 0 dL_law_733 rfl ?_
        refine x_iload_n 3 dL_law_734 rfl ?_
        refine x_iconst 1 dL_law_735 (by decide) ?_
        refine x_iadd dL_law_736 ?_
        obtain ⟨x259, h260, hf⟩ := bnd hf
        refine x_sld h260 hX hbl hG dL_law_737 ?_
        obtain ⟨q261, h262, hf⟩ := bnd hf
        refine x_callVi (rest := [.int q257.1]) [.int x259] (tX7_kinds v2 x259 q257.2 h262) wY_X7_kinds wI_X7_kinds wS_X7_kinds wL_L_112 (grd_p h262) (by decide) rfl rfl (Nat.le_of_ble_eq_true rfl) ⟨Nat.le_of_ble_eq_true rfl, Nat.le_of_ble_eq_true rfl⟩ ⟨Nat.le_of_ble_eq_true rfl, Nat.le_of_ble_eq_true rfl⟩ dL_law_738 ?_
        refine x_icmp_eq 891 dL_law_741 rfl (fun c263 => ?_) (fun c263 => ?_)
        · rw [if_pos c263] at hf
          refine x_iinc 3 (v3 + 5) [1, 2, 3, 0] dL_law_891 rfl rfl (by decide) (lv' := [(0, .ref b), (1, .ref (gB G + v1)), (2, .ref (gB G + v2)), (3, .int (v3 + 5))]) rfl ?_
          refine x_goto 18 dL_law_894 rfl ?_
          exact ih v1 v2 (v3 + 5) q261.2 hf
        · rw [if_neg c263] at hf
          refine x_iconst 0 dL_law_744 (by decide) ?_
          exact law_no hf hr
      rw [if_neg c254] at hf
      by_cases c264 : (x10 &&& 31) = 24
      · rw [if_pos c264] at hf
        refine x_tableIn 746 dL_law_32 (by rw [c264]; decide) (by rw [c264]; decide) (by rw [c264]; rfl) rfl ?_
        refine x_aload_n 1 dL_law_746 rfl ?_
        refine x_aload_n 0 dL_law_747 rfl ?_
        refine x_iload_n 3 dL_law_748 rfl ?_
        refine x_iconst 1 dL_law_749 (by decide) ?_
        refine x_iadd dL_law_750 ?_
        obtain ⟨x265, h266, hf⟩ := bnd hf
        refine x_sld h266 hX hbl hG dL_law_751 ?_
        refine x_aload_n 0 dL_law_752 rfl ?_
        refine x_iload_n 3 dL_law_753 rfl ?_
        refine x_iconst 2 dL_law_754 (by decide) ?_
        refine x_iadd dL_law_755 ?_
        obtain ⟨x267, h268, hf⟩ := bnd hf
        refine x_sld h268 hX hbl hG dL_law_756 ?_
        refine x_aload_n 0 dL_law_757 rfl ?_
        refine x_iload_n 3 dL_law_758 rfl ?_
        refine x_iconst 3 dL_law_759 (by decide) ?_
        refine x_iadd dL_law_760 ?_
        obtain ⟨x269, h270, hf⟩ := bnd hf
        refine x_sld h270 hX hbl hG dL_law_761 ?_
        refine x_aload_n 0 dL_law_762 rfl ?_
        refine x_iload_n 3 dL_law_763 rfl ?_
        refine x_iconst 4 dL_law_764 (by decide) ?_
        refine x_iadd dL_law_765 ?_
        obtain ⟨x271, h272, hf⟩ := bnd hf
        refine x_sld h272 hX hbl hG dL_law_766 ?_
        obtain ⟨q273, h274, hf⟩ := bnd hf
        refine x_callVi (rest := []) [.int x265, .int x267, .int x269, .int x271] (tX6_likely v1 x265 x267 x269 x271 μ h274) wY_X6_likely wI_X6_likely wS_X6_likely wL_L_113 (grd_p h274) (by decide) rfl rfl (Nat.le_of_ble_eq_true rfl) ⟨Nat.le_of_ble_eq_true rfl, Nat.le_of_ble_eq_true rfl⟩ ⟨Nat.le_of_ble_eq_true rfl, Nat.le_of_ble_eq_true rfl⟩ dL_law_767 ?_
        refine x_aload_n 2 dL_law_770 rfl ?_
        refine x_aload_n 0 dL_law_771 rfl ?_
        refine x_iload_n 3 dL_law_772 rfl ?_
        refine x_iconst 1 dL_law_773 (by decide) ?_
        refine x_iadd dL_law_774 ?_
        obtain ⟨x275, h276, hf⟩ := bnd hf
        refine x_sld h276 hX hbl hG dL_law_775 ?_
        refine x_aload_n 0 dL_law_776 rfl ?_
        refine x_iload_n 3 dL_law_777 rfl ?_
        refine x_iconst 2 dL_law_778 (by decide) ?_
        refine x_iadd dL_law_779 ?_
        obtain ⟨x277, h278, hf⟩ := bnd hf
        refine x_sld h278 hX hbl hG dL_law_780 ?_
        refine x_aload_n 0 dL_law_781 rfl ?_
        refine x_iload_n 3 dL_law_782 rfl ?_
        refine x_iconst 3 dL_law_783 (by decide) ?_
        refine x_iadd dL_law_784 ?_
        obtain ⟨x279, h280, hf⟩ := bnd hf
        refine x_sld h280 hX hbl hG dL_law_785 ?_
        refine x_aload_n 0 dL_law_786 rfl ?_
        refine x_iload_n 3 dL_law_787 rfl ?_
        refine x_iconst 4 dL_law_788 (by decide) ?_
        refine x_iadd dL_law_789 ?_
        obtain ⟨x281, h282, hf⟩ := bnd hf
        refine x_sld h282 hX hbl hG dL_law_790 ?_
        obtain ⟨q283, h284, hf⟩ := bnd hf
        refine x_callVi (rest := [.int q273.1]) [.int x275, .int x277, .int x279, .int x281] (tX7_likely v2 x275 x277 x279 x281 q273.2 h284) wY_X7_likely wI_X7_likely wS_X7_likely wL_L_117 (grd_p h284) (by decide) rfl rfl (Nat.le_of_ble_eq_true rfl) ⟨Nat.le_of_ble_eq_true rfl, Nat.le_of_ble_eq_true rfl⟩ ⟨Nat.le_of_ble_eq_true rfl, Nat.le_of_ble_eq_true rfl⟩ dL_law_791 ?_
        refine x_icmp_eq 891 dL_law_794 rfl (fun c285 => ?_) (fun c285 => ?_)
        · rw [if_pos c285] at hf
          refine x_iinc 3 (v3 + 5) [1, 2, 3, 0] dL_law_891 rfl rfl (by decide) (lv' := [(0, .ref b), (1, .ref (gB G + v1)), (2, .ref (gB G + v2)), (3, .int (v3 + 5))]) rfl ?_
          refine x_goto 18 dL_law_894 rfl ?_
          exact ih v1 v2 (v3 + 5) q283.2 hf
        · rw [if_neg c285] at hf
          refine x_iconst 0 dL_law_797 (by decide) ?_
          exact law_no hf hr
      rw [if_neg c264] at hf
      by_cases c286 : (x10 &&& 31) = 25
      · rw [if_pos c286] at hf
        refine x_tableIn 799 dL_law_32 (by rw [c286]; decide) (by rw [c286]; decide) (by rw [c286]; rfl) rfl ?_
        refine x_aload_n 1 dL_law_799 rfl ?_
        refine x_aload_n 0 dL_law_800 rfl ?_
        refine x_iload_n 3 dL_law_801 rfl ?_
        refine x_iconst 1 dL_law_802 (by decide) ?_
        refine x_iadd dL_law_803 ?_
        obtain ⟨x287, h288, hf⟩ := bnd hf
        refine x_sld h288 hX hbl hG dL_law_804 ?_
        refine x_aload_n 0 dL_law_805 rfl ?_
        refine x_iload_n 3 dL_law_806 rfl ?_
        refine x_iconst 2 dL_law_807 (by decide) ?_
        refine x_iadd dL_law_808 ?_
        obtain ⟨x289, h290, hf⟩ := bnd hf
        refine x_sld h290 hX hbl hG dL_law_809 ?_
        refine x_aload_n 0 dL_law_810 rfl ?_
        refine x_iload_n 3 dL_law_811 rfl ?_
        refine x_iconst 3 dL_law_812 (by decide) ?_
        refine x_iadd dL_law_813 ?_
        obtain ⟨x291, h292, hf⟩ := bnd hf
        refine x_sld h292 hX hbl hG dL_law_814 ?_
        obtain ⟨q293, h294, hf⟩ := bnd hf
        refine x_callVi (rest := []) [.int x287, .int x289, .int x291] (tX6_decade v1 x287 x289 x291 μ h294) wY_X6_decade wI_X6_decade wS_X6_decade wL_L_118 (grd_p h294) (by decide) rfl rfl (Nat.le_of_ble_eq_true rfl) ⟨Nat.le_of_ble_eq_true rfl, Nat.le_of_ble_eq_true rfl⟩ ⟨Nat.le_of_ble_eq_true rfl, Nat.le_of_ble_eq_true rfl⟩ dL_law_815 ?_
        refine x_aload_n 2 dL_law_818 rfl ?_
        refine x_aload_n 0 dL_law_819 rfl ?_
        refine x_iload_n 3 dL_law_820 rfl ?_
        refine x_iconst 1 dL_law_821 (by decide) ?_
        refine x_iadd dL_law_822 ?_
        obtain ⟨x295, h296, hf⟩ := bnd hf
        refine x_sld h296 hX hbl hG dL_law_823 ?_
        refine x_aload_n 0 dL_law_824 rfl ?_
        refine x_iload_n 3 dL_law_825 rfl ?_
        refine x_iconst 2 dL_law_826 (by decide) ?_
        refine x_iadd dL_law_827 ?_
        obtain ⟨x297, h298, hf⟩ := bnd hf
        refine x_sld h298 hX hbl hG dL_law_828 ?_
        refine x_aload_n 0 dL_law_829 rfl ?_
        refine x_iload_n 3 dL_law_830 rfl ?_
        refine x_iconst 3 dL_law_831 (by decide) ?_
        refine x_iadd dL_law_832 ?_
        obtain ⟨x299, h300, hf⟩ := bnd hf
        refine x_sld h300 hX hbl hG dL_law_833 ?_
        obtain ⟨q301, h302, hf⟩ := bnd hf
        refine x_callVi (rest := [.int q293.1]) [.int x295, .int x297, .int x299] (tX7_decade v2 x295 x297 x299 q293.2 h302) wY_X7_decade wI_X7_decade wS_X7_decade wL_L_121 (grd_p h302) (by decide) rfl rfl (Nat.le_of_ble_eq_true rfl) ⟨Nat.le_of_ble_eq_true rfl, Nat.le_of_ble_eq_true rfl⟩ ⟨Nat.le_of_ble_eq_true rfl, Nat.le_of_ble_eq_true rfl⟩ dL_law_834 ?_
        refine x_icmp_eq 891 dL_law_837 rfl (fun c303 => ?_) (fun c303 => ?_)
        · rw [if_pos c303] at hf
          refine x_iinc 3 (v3 + 5) [1, 2, 3, 0] dL_law_891 rfl rfl (by decide) (lv' := [(0, .ref b), (1, .ref (gB G + v1)), (2, .ref (gB G + v2)), (3, .int (v3 + 5))]) rfl ?_
          refine x_goto 18 dL_law_894 rfl ?_
          exact ih v1 v2 (v3 + 5) q301.2 hf
        · rw [if_neg c303] at hf
          refine x_iconst 0 dL_law_840 (by decide) ?_
          exact law_no hf hr
      rw [if_neg c286] at hf
      by_cases c304 : (x10 &&& 31) = 26
      · rw [if_pos c304] at hf
        refine x_tableIn 842 dL_law_32 (by rw [c304]; decide) (by rw [c304]; decide) (by rw [c304]; rfl) rfl ?_
        refine x_aload_n 1 dL_law_842 rfl ?_
        obtain ⟨q305, h306, hf⟩ := bnd hf
        refine x_callVi (rest := []) [] (tX6_keep v1  μ h306) wY_X6_keep wI_X6_keep wS_X6_keep wL_L_122 (grd_p h306) (by decide) rfl rfl (Nat.le_of_ble_eq_true rfl) ⟨Nat.le_of_ble_eq_true rfl, Nat.le_of_ble_eq_true rfl⟩ ⟨Nat.le_of_ble_eq_true rfl, Nat.le_of_ble_eq_true rfl⟩ dL_law_843 ?_
        refine x_aload_n 2 dL_law_846 rfl ?_
        obtain ⟨q307, h308, hf⟩ := bnd hf
        refine x_callVi (rest := [.int q305.1]) [] (tX7_keep v2  q305.2 h308) wY_X7_keep wI_X7_keep wS_X7_keep wL_L_125 (grd_p h308) (by decide) rfl rfl (Nat.le_of_ble_eq_true rfl) ⟨Nat.le_of_ble_eq_true rfl, Nat.le_of_ble_eq_true rfl⟩ ⟨Nat.le_of_ble_eq_true rfl, Nat.le_of_ble_eq_true rfl⟩ dL_law_847 ?_
        refine x_icmp_eq 891 dL_law_850 rfl (fun c309 => ?_) (fun c309 => ?_)
        · rw [if_pos c309] at hf
          refine x_iinc 3 (v3 + 5) [1, 2, 3, 0] dL_law_891 rfl rfl (by decide) (lv' := [(0, .ref b), (1, .ref (gB G + v1)), (2, .ref (gB G + v2)), (3, .int (v3 + 5))]) rfl ?_
          refine x_goto 18 dL_law_894 rfl ?_
          exact ih v1 v2 (v3 + 5) q307.2 hf
        · rw [if_neg c309] at hf
          refine x_iconst 0 dL_law_853 (by decide) ?_
          exact law_no hf hr
      rw [if_neg c304] at hf
      by_cases c310 : (x10 &&& 31) = 27
      · rw [if_pos c310] at hf
        refine x_tableIn 855 dL_law_32 (by rw [c310]; decide) (by rw [c310]; decide) (by rw [c310]; rfl) rfl ?_
        refine x_aload_n 1 dL_law_855 rfl ?_
        obtain ⟨q311, h312, hf⟩ := bnd hf
        refine x_callVi (rest := []) [] (tX6_back v1  μ h312) wY_X6_back wI_X6_back wS_X6_back wL_L_126 (grd_p h312) (by decide) rfl rfl (Nat.le_of_ble_eq_true rfl) ⟨Nat.le_of_ble_eq_true rfl, Nat.le_of_ble_eq_true rfl⟩ ⟨Nat.le_of_ble_eq_true rfl, Nat.le_of_ble_eq_true rfl⟩ dL_law_856 ?_
        refine x_aload_n 2 dL_law_859 rfl ?_
        obtain ⟨q313, h314, hf⟩ := bnd hf
        refine x_callVi (rest := [.int q311.1]) [] (tX7_back v2  q311.2 h314) wY_X7_back wI_X7_back wS_X7_back wL_L_129 (grd_p h314) (by decide) rfl rfl (Nat.le_of_ble_eq_true rfl) ⟨Nat.le_of_ble_eq_true rfl, Nat.le_of_ble_eq_true rfl⟩ ⟨Nat.le_of_ble_eq_true rfl, Nat.le_of_ble_eq_true rfl⟩ dL_law_860 ?_
        refine x_icmp_eq 891 dL_law_863 rfl (fun c315 => ?_) (fun c315 => ?_)
        · rw [if_pos c315] at hf
          refine x_iinc 3 (v3 + 5) [1, 2, 3, 0] dL_law_891 rfl rfl (by decide) (lv' := [(0, .ref b), (1, .ref (gB G + v1)), (2, .ref (gB G + v2)), (3, .int (v3 + 5))]) rfl ?_
          refine x_goto 18 dL_law_894 rfl ?_
          exact ih v1 v2 (v3 + 5) q313.2 hf
        · rw [if_neg c315] at hf
          refine x_iconst 0 dL_law_866 (by decide) ?_
          exact law_no hf hr
      rw [if_neg c310] at hf
      by_cases c316 : (x10 &&& 31) = 28
      · rw [if_pos c316] at hf
        refine x_tableIn 868 dL_law_32 (by rw [c316]; decide) (by rw [c316]; decide) (by rw [c316]; rfl) rfl ?_
        refine x_aload_n 1 dL_law_868 rfl ?_
        refine x_aload_n 0 dL_law_869 rfl ?_
        refine x_iload_n 3 dL_law_870 rfl ?_
        refine x_iconst 1 dL_law_871 (by decide) ?_
        refine x_iadd dL_law_872 ?_
        obtain ⟨x317, h318, hf⟩ := bnd hf
        refine x_sld h318 hX hbl hG dL_law_873 ?_
        obtain ⟨q319, h320, hf⟩ := bnd hf
        refine x_callVi (rest := []) [.int x317] (tX6_count v1 x317 μ h320) wY_X6_count wI_X6_count wS_X6_count wL_L_130 (grd_p h320) (by decide) rfl rfl (Nat.le_of_ble_eq_true rfl) ⟨Nat.le_of_ble_eq_true rfl, Nat.le_of_ble_eq_true rfl⟩ ⟨Nat.le_of_ble_eq_true rfl, Nat.le_of_ble_eq_true rfl⟩ dL_law_874 ?_
        refine x_aload_n 2 dL_law_877 rfl ?_
        refine x_aload_n 0 dL_law_878 rfl ?_
        refine x_iload_n 3 dL_law_879 rfl ?_
        refine x_iconst 1 dL_law_880 (by decide) ?_
        refine x_iadd dL_law_881 ?_
        obtain ⟨x321, h322, hf⟩ := bnd hf
        refine x_sld h322 hX hbl hG dL_law_882 ?_
        obtain ⟨q323, h324, hf⟩ := bnd hf
        refine x_callVi (rest := [.int q319.1]) [.int x321] (tX7_count v2 x321 q319.2 h324) wY_X7_count wI_X7_count wS_X7_count wL_L_133 (grd_p h324) (by decide) rfl rfl (Nat.le_of_ble_eq_true rfl) ⟨Nat.le_of_ble_eq_true rfl, Nat.le_of_ble_eq_true rfl⟩ ⟨Nat.le_of_ble_eq_true rfl, Nat.le_of_ble_eq_true rfl⟩ dL_law_883 ?_
        refine x_icmp_eq 891 dL_law_886 rfl (fun c325 => ?_) (fun c325 => ?_)
        · rw [if_pos c325] at hf
          refine x_iinc 3 (v3 + 5) [1, 2, 3, 0] dL_law_891 rfl rfl (by decide) (lv' := [(0, .ref b), (1, .ref (gB G + v1)), (2, .ref (gB G + v2)), (3, .int (v3 + 5))]) rfl ?_
          refine x_goto 18 dL_law_894 rfl ?_
          exact ih v1 v2 (v3 + 5) q323.2 hf
        · rw [if_neg c325] at hf
          refine x_iconst 0 dL_law_889 (by decide) ?_
          exact law_no hf hr
      rw [if_neg c316] at hf
      refine x_tableOut 891 dL_law_32 (tsw_out 29 (by decide) (fun j hj => ?_)) rfl ?_
      · match j, hj with
        | 0, _ => exact c12
        | 1, _ => exact c22
        | 2, _ => exact c28
        | 3, _ => exact c34
        | 4, _ => exact c40
        | 5, _ => exact c54
        | 6, _ => exact c68
        | 7, _ => exact c82
        | 8, _ => exact c92
        | 9, _ => exact c106
        | 10, _ => exact c116
        | 11, _ => exact c126
        | 12, _ => exact c132
        | 13, _ => exact c142
        | 14, _ => exact c156
        | 15, _ => exact c166
        | 16, _ => exact c176
        | 17, _ => exact c186
        | 18, _ => exact c200
        | 19, _ => exact c210
        | 20, _ => exact c220
        | 21, _ => exact c238
        | 22, _ => exact c244
        | 23, _ => exact c254
        | 24, _ => exact c264
        | 25, _ => exact c286
        | 26, _ => exact c304
        | 27, _ => exact c310
        | 28, _ => exact c316
        | j + 29, hj => exact absurd hj (by omega)
      · refine x_iinc 3 (v3 + 5) [1, 2, 3, 0] dL_law_891 rfl rfl (by decide) (lv' := [(0, .ref b), (1, .ref (gB G + v1)), (2, .ref (gB G + v2)), (3, .int (v3 + 5))]) rfl ?_
        refine x_goto 18 dL_law_894 rfl ?_
        exact ih v1 v2 (v3 + 5) μ hf
def fL_law (xs : Nat → Int32) (N : Nat) (μ : Mu) : Option (Int32 × Mu) := (nO 6 μ).bind fun q1 =>
    (fX6_init q1.1 q1.2).bind fun q3 =>
    (nO 7 q3).bind fun q5 =>
    (fX7_init q5.1  q5.2).bind fun q7 =>
    fL_law_18 xs N FU q1.1 q5.1 0 q7
set_option maxRecDepth 20000 in
theorem tL_law {G : Gm} {p : Program} {l : Launch} {e : Env} {s : State} {m : MethodId} {below : List Frame} {meth : Method} {c : Code} {b N : Nat} {xs : Nat → Int32} {r : Int32 × Mu} (hX : va_X b N xs s s.heap) (hbl : b < s.heap.size) (hG : gB G = s.heap.size) (hr : r.1 = 1) {aK aV : Nat} (hk : Sk (fA G) aK aV s s.heap) (hkR : vk_R RX6 59 fiT aK s) (μ : Mu) (hf : fL_law xs N μ = some r) : Lt G p l e room_1 s m #[.ref b] below meth c cL_law 4 RL ret meth.name (lw_Z below #[.ref b] s) 0 0 0 [(0, .ref b)] [] μ := by
  rw [fL_law] at hf
  obtain ⟨q1, h2, hf⟩ := bnd hf
  refine x_new wK_L_7 wN_6 wA_6 (by decide) h2 ⟨Nat.le_of_ble_eq_true rfl, Nat.le_of_ble_eq_true rfl⟩ dL_law_0 ?_
  refine x_dup dL_law_3 rfl ?_
  obtain ⟨q3, h4, hf⟩ := bnd hf
  refine x_callIK (rest := [.ref (gB G + q1.1)]) hk hkR (tX6_init q1.1 q1.2 h4) wY_X6_init wI_X6_init rfl wL_L_9 rfl (Nat.le_of_ble_eq_true rfl) ⟨Nat.le_of_ble_eq_true rfl, Nat.le_of_ble_eq_true rfl⟩ ⟨Nat.le_of_ble_eq_true rfl, Nat.le_of_ble_eq_true rfl⟩ dL_law_4 ?_
  refine x_astore_n [1, 0] dL_law_7 (by decide) (lv' := [(0, .ref b), (1, .ref (gB G + q1.1))]) rfl ?_
  obtain ⟨q5, h6, hf⟩ := bnd hf
  refine x_new wK_L_10 wN_7 wA_7 (by decide) h6 ⟨Nat.le_of_ble_eq_true rfl, Nat.le_of_ble_eq_true rfl⟩ dL_law_8 ?_
  refine x_dup dL_law_11 rfl ?_
  obtain ⟨q7, h8, hf⟩ := bnd hf
  refine x_callIv (rest := [.ref (gB G + q5.1)]) [] (tX7_init q5.1  q5.2 h8) wY_X7_init wI_X7_init rfl wL_L_12 rfl (Nat.le_of_ble_eq_true rfl) ⟨Nat.le_of_ble_eq_true rfl, Nat.le_of_ble_eq_true rfl⟩ ⟨Nat.le_of_ble_eq_true rfl, Nat.le_of_ble_eq_true rfl⟩ dL_law_12 ?_
  refine x_astore_n [1, 2, 0] dL_law_15 (by decide) (lv' := [(0, .ref b), (1, .ref (gB G + q1.1)), (2, .ref (gB G + q5.1))]) rfl ?_
  refine x_iconst 0 dL_law_16 (by decide) ?_
  refine x_istore_n [1, 2, 3, 0] dL_law_17 (by decide) (lv' := [(0, .ref b), (1, .ref (gB G + q1.1)), (2, .ref (gB G + q5.1)), (3, .int 0)]) rfl ?_
  exact tL_law_18 hX hbl hG hr FU q1.1 q5.1 0 q7 hf
