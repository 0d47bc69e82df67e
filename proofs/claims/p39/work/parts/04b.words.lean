/-! THE TABLES AGAINST THE STATEMENT'S WORDS (by gens.py) -/
def am_gw (w : Cond) : Bool := goodWord w || (match w with
  | .castable .. => true
  | .methodLinkNest .. => true
  | .arrayOver (.object _) => true
  | .declares _ => true
  | _ => false)
def am_W : List Cond := lw_tbl.filter am_gw
def am_at (i : Nat) (w : Cond) : Bool := decide (lw_tbl[i]? = some w) && am_gw w
theorem am_at_in {i : Nat} {w : Cond} (h : am_at i w = true) : w ∈ am_W := by
  simp only [am_at, Bool.and_eq_true, decide_eq_true_eq] at h
  exact List.mem_filter.mpr ⟨List.mem_of_getElem? h.1, h.2⟩
def am_al2 {α : Type} (f : α → Nat → Bool) : List α → List Nat → Bool
  | [], _ => true
  | a :: l, i :: is => f a i && am_al2 f l is
  | _ :: _, [] => false
theorem am_al2_in {α : Type} {f : α → Nat → Bool} : ∀ {l : List α} {is : List Nat}, am_al2 f l is = true → ∀ a ∈ l, ∃ i, f a i = true
  | [], _, _, _, h => by cases h
  | _ :: _, [], h, _, _ => by cases h
  | b :: l, i :: is, h, a, ha => by
    simp only [am_al2, Bool.and_eq_true] at h
    rcases List.mem_cons.mp ha with rfl | ha
    · exact ⟨i, h.1⟩
    · exact am_al2_in h.2 a ha
theorem am_look_in {β : Type} : ∀ {t : List (Nat × Nat × β)} {a b : Nat} {v : β}, am_look t a b = some v → (a, b, v) ∈ t
  | [], _, _, _, h => by cases h
  | q :: t, a, b, v, h => by
    unfold am_look at h
    split at h
    · rename_i hq
      obtain ⟨q1, q2, q3⟩ := q
      obtain ⟨rfl, rfl⟩ := hq
      cases h
      exact List.mem_cons_self
    · exact List.mem_cons_of_mem _ (am_look_in h)
def am_flw (q : Nat × Nat × Nat × Nat) (i : Nat) : Bool := am_at i (.fieldLink (am_cR q.1) q.2.1 (am_cR q.2.2.1) (am_cT q.2.2.1 q.2.2.2).2.1 (am_cT q.2.2.1 q.2.2.2).2.2.1) && decide (q.2.2.2 < am_cN q.2.2.1) && decide (q.2.2.1 < 10) && decide ((am_cT q.2.2.1 q.2.2.2).1 = am_cR q.2.2.1)
theorem am_fl_ok : am_al2 am_flw am_fl_t [260, 262, 264, 266, 286, 289, 287, 293, 291, 88, 68, 71, 74, 77, 80, 83, 86, 225, 226, 227, 152, 127, 129, 132, 135, 138, 141, 144, 147, 149, 180, 182, 184, 188, 192, 194, 176, 178, 113, 115, 186, 190, 261, 263, 265, 267, 75, 78, 73, 150, 153, 136, 133, 82, 145, 148, 85, 142, 130, 70, 140, 242, 244, 306, 307, 308, 310, 311, 312, 313, 314, 315, 246, 69, 72, 76, 79, 87, 81, 84, 114, 116, 185, 177, 179, 181, 183, 128, 131, 134, 151, 143, 146, 137, 139, 154, 89, 191, 193, 189, 187, 288, 292, 290, 243, 245, 316, 228, 309] = true := by decide +kernel
def am_clw (ci : Nat) (l : List Nat) : Bool := am_al2 (fun w i => am_at i w) (u_ws (am_cR ci) (am_cT ci) (am_cN ci)) l
theorem am_cl_ok0 : am_clw 0 [268, 270, 272, 274] = true := by decide +kernel
theorem am_cl_ok1 : am_clw 1 [294, 296, 298, 300, 302] = true := by decide +kernel
theorem am_cl_ok2 : am_clw 2 [90, 92, 94, 96, 98, 100, 102, 104] = true := by decide +kernel
theorem am_cl_ok3 : am_clw 3 [229, 231, 233] = true := by decide +kernel
theorem am_cl_ok4 : am_clw 4 [155, 157, 159, 161, 163, 165, 167, 169, 171, 173] = true := by decide +kernel
theorem am_cl_ok5 : am_clw 5 [195, 197, 199, 201, 203, 205, 207, 209, 211, 213] = true := by decide +kernel
theorem am_cl_ok6 : am_clw 6 [247, 249, 251] = true := by decide +kernel
theorem am_cl_ok7 : am_clw 7 [117, 119] = true := by decide +kernel
theorem am_cl_ok8 : am_clw 8 [317, 319, 321, 323, 325, 327, 329, 331, 333, 335, 337] = true := by decide +kernel
theorem am_cl_ok9 : am_clw 9 [670, 672, 1378, 1380] = true := by decide +kernel
theorem am_cl_in : ∀ ci, ci < 10 → ∀ w ∈ u_ws (am_cR ci) (am_cT ci) (am_cN ci), w ∈ am_W := by
  have key : ∀ ci l, am_clw ci l = true → ∀ w ∈ u_ws (am_cR ci) (am_cT ci) (am_cN ci), w ∈ am_W := by
    intro ci l h w hw
    obtain ⟨i, hi⟩ := am_al2_in h w hw
    exact am_at_in hi
  intro ci h
  match ci, h with
  | 0, _ => exact key _ _ am_cl_ok0
  | 1, _ => exact key _ _ am_cl_ok1
  | 2, _ => exact key _ _ am_cl_ok2
  | 3, _ => exact key _ _ am_cl_ok3
  | 4, _ => exact key _ _ am_cl_ok4
  | 5, _ => exact key _ _ am_cl_ok5
  | 6, _ => exact key _ _ am_cl_ok6
  | 7, _ => exact key _ _ am_cl_ok7
  | 8, _ => exact key _ _ am_cl_ok8
  | 9, _ => exact key _ _ am_cl_ok9
  | n + 10, h => exact absurd h (by omega)
theorem am_cY_ok : ∀ ci, ci < 10 → ∀ k, k < am_cN ci → parseFieldDescriptor (am_cT ci k).2.2.1 = some (am_cY ci k) := by
  intro ci h
  match ci, h with
  | 0, _ => exact tyX0_ok
  | 1, _ => exact tyX1_ok
  | 2, _ => exact tyX2_ok
  | 3, _ => exact tyX3_ok
  | 4, _ => exact tyX4_ok
  | 5, _ => exact tyX5_ok
  | 6, _ => exact tyX6_ok
  | 7, _ => exact tyX7_ok
  | 8, _ => exact tyX8_ok
  | 9, _ => exact tyJ0_ok
  | n + 10, h => exact absurd h (by omega)
theorem am_nm_ok : ∀ ci, ci < 10 → ∀ a, a < am_cN ci → ∀ b, b < am_cN ci → a ≠ b → (am_cT ci a).2.1 ≠ (am_cT ci b).2.1 := by
  intro ci h
  match ci, h with
  | 0, _ => exact nmX0
  | 1, _ => exact nmX1
  | 2, _ => exact nmX2
  | 3, _ => exact nmX3
  | 4, _ => exact nmX4
  | 5, _ => exact nmX5
  | 6, _ => exact nmX6
  | 7, _ => exact nmX7
  | 8, _ => exact nmX8
  | 9, _ => exact nmJ0
  | n + 10, h => exact absurd h (by omega)
theorem am_cl_at : ∀ ci, ci < 10 → am_cl[ci]? = some (am_cR ci, am_cT ci, am_cN ci) := by
  intro ci h
  match ci, h with
  | 0, _ => rfl
  | 1, _ => rfl
  | 2, _ => rfl
  | 3, _ => rfl
  | 4, _ => rfl
  | 5, _ => rfl
  | 6, _ => rfl
  | 7, _ => rfl
  | 8, _ => rfl
  | 9, _ => rfl
  | n + 10, h => exact absurd h (by omega)
theorem am_ins_ok : am_al2 (fun ci i => am_at i (.instantiable (am_cR ci) (am_cN ci))) (List.range 10) [255, 278, 63, 217, 122, 52, 237, 108, 44, 668] = true := by decide +kernel
theorem am_init_ok : am_al2 (fun ci i => am_at i (.initialized (am_cR ci))) (List.range 11) [17, 18, 12, 15, 14, 11, 16, 13, 10, 29, 9] = true := by decide +kernel
