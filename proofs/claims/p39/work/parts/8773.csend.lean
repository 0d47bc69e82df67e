/-! THE CLASS SENDS -/
section Kc3
variable {d n B : Nat} {M M' M0 : am_M} {a : Nat → Nat} {w : am_W4} {ar : List Nat}
theorem sn_g_s {A : Nat → Nat} {m s z k : Nat} (hk : k < s) : ∀ i, i ≤ s → sn_g A m s z i (60 + 19 * m + (11 + k)) = if s - 1 - k < i then dg z (s - 1 - k) else A (60 + 19 * m + (11 + k)) := by
  intro i
  induction i with
  | zero => intro _; rw [if_neg (by omega)]; rfl
  | succ i ih =>
    intro hi
    rw [show sn_g A m s z (i + 1) = nu (sn_g A m s z i) (60 + 19 * m + (11 + (s - 1 - i))) (dg z i) from rfl]
    by_cases e : s - 1 - k = i
    · rw [if_pos (by omega), show s - 1 - i = k by omega, nu_eq, e]
    · rw [nu_ne (by omega), ih (by omega)]
      by_cases h : s - 1 - k < i
      · rw [if_pos h, if_pos (by omega)]
      · rw [if_neg h, if_neg (by omega)]
theorem sn_g_o {A : Nat → Nat} {m s z j : Nat} (hs : s ≤ 8) (hj : j < 60 + 19 * m + 11 ∨ 60 + 19 * m + 19 ≤ j) : ∀ i, i ≤ s → sn_g A m s z i j = A j := by
  intro i
  induction i with
  | zero => intro _; rfl
  | succ i ih =>
    intro hi
    rw [show sn_g A m s z (i + 1) = nu (sn_g A m s z i) (60 + 19 * m + (11 + (s - 1 - i))) (dg z i) from rfl, nu_ne (by omega)]
    exact ih (by omega)
theorem sn_g_i {A : Nat → Nat} {m s z k : Nat} (hk : s ≤ k) : ∀ i, i ≤ s → sn_g A m s z i (60 + 19 * m + (11 + k)) = A (60 + 19 * m + (11 + k)) := by
  intro i
  induction i with
  | zero => intro _; rfl
  | succ i ih =>
    intro hi
    rw [show sn_g A m s z (i + 1) = nu (sn_g A m s z i) (60 + 19 * m + (11 + (s - 1 - i))) (dg z i) from rfl, nu_ne (by omega)]
    exact ih (by omega)
theorem sn_2 {x y z : Nat} : sn a x y z 2 = a 2 + 1 := by
  unfold sn sn_f
  rw [sn_g_o nd_le (by omega) _ (Nat.le_refl _), nu_ne (by omega), nu_ne (by omega), nu_ne (by omega), nu_ne (by omega), nu_ne (by omega), nu_ne (by omega), nu_ne (by omega), nu_ne (by omega), sn_z_out (by omega), nu_eq]
theorem sn_3 {x y z : Nat} : sn a x y z 3 = a 3 + 1 := by
  unfold sn sn_f
  rw [sn_g_o nd_le (by omega) _ (Nat.le_refl _), nu_ne (by omega), nu_ne (by omega), nu_eq]
theorem sn_o {x y z i : Nat} (h2 : i ≠ 2) (h3 : i ≠ 3) (h : i < 60 + 19 * a 2 ∨ 60 + 19 * a 2 + 19 ≤ i) : sn a x y z i = a i := by
  unfold sn sn_f
  rw [sn_g_o nd_le (by omega) _ (Nat.le_refl _), nu_ne (by omega), nu_ne (by omega), nu_ne (by omega), nu_ne (by omega), nu_ne (by omega), nu_ne (by omega), nu_ne (by omega), nu_ne (by omega), sn_z_out (by omega), nu_ne h2]
def sn_v (x y s h p f : Nat) : Nat := if f = 0 then x else if f = 1 then y else if f = 2 then x else if f = 3 then s else if f = 7 then h else if f = 8 then p else if f = 9 then 1 else 0
theorem sn_at {x y z f : Nat} (hf : f < 11) : sn a x y z (60 + 19 * a 2 + f) = sn_v x y (nd 8 z) (a 0) (a 3) f := by
  unfold sn sn_f sn_v
  rw [sn_g_o nd_le (by omega) _ (Nat.le_refl _)]
  by_cases h9 : f = 9
  · subst h9; rw [nu_eq]; rfl
  rw [nu_ne (by omega)]
  by_cases h8 : f = 8
  · subst h8; rw [nu_eq]; rfl
  rw [nu_ne (by omega), nu_ne (by omega)]
  by_cases h7 : f = 7
  · subst h7; rw [nu_eq]; rfl
  rw [nu_ne (by omega)]
  by_cases h3 : f = 3
  · subst h3; rw [nu_eq]; rfl
  rw [nu_ne (by omega)]
  by_cases h2 : f = 2
  · subst h2; rw [nu_eq]; rfl
  rw [nu_ne (by omega)]
  by_cases h1 : f = 1
  · subst h1; rw [nu_eq]; rfl
  rw [nu_ne (by omega)]
  by_cases h0 : f = 0
  · subst h0; rw [nu_eq]; rfl
  rw [nu_ne (by omega), sn_z_in (by omega), if_neg h0, if_neg h1, if_neg h2, if_neg h3, if_neg h7, if_neg h8, if_neg h9]
theorem sn_s {x y z k : Nat} (hk : k < nd 8 z) : sn a x y z (60 + 19 * a 2 + (11 + k)) = dg z (nd 8 z - 1 - k) := by
  unfold sn
  rw [sn_g_s hk _ (Nat.le_refl _), if_pos (by omega)]
theorem sn_s0 {x y z k : Nat} (hk : nd 8 z ≤ k) (h8 : k < 8) : sn a x y z (60 + 19 * a 2 + (11 + k)) = 0 := by
  unfold sn sn_f
  rw [sn_g_i hk _ (Nat.le_refl _), nu_ne (by omega), nu_ne (by omega), nu_ne (by omega), nu_ne (by omega), nu_ne (by omega), nu_ne (by omega), nu_ne (by omega), nu_ne (by omega), sn_z_in (by omega)]
theorem nw.sn {x y z : Nat} {q : Nat → List Nat} (hok : ml_ok B a) (h1 : nwF n a M) (h5 : ∀ m, m < a 2 → M (24, n, m) 5 = nI (nw_pl a m)) (hQ : nwQ n M q (a 1)) (hR : nwR n M ar) (hl : nw_l a q ar) (hg : ∀ m, m < a 2 → a (60 + 19 * m + 10) = 0) (hx : x < a 1) (hm : a 2 < 16)
    (H5 : M' (13, n, 0) 5 = nI (a 2 + 1)) (H24 : ∀ j, j ≤ 8 → M' (24, n, a 2) j = nI (if j = 5 then 0 else sn_v x y (nd 8 z) (a 0) (a 3) (nw_f j))) (H25 : ∀ k, k < nd 8 z → M' (25, n, a 2) k = nI (dg z (nd 8 z - 1 - k))) (H21 : M' (21, n, x) 6 = nI ((q x).length + 1)) (H22 : M' (22, n, x) (q x).length = nI (a 2))
    (Ho : ∀ l j, ¬ (l = (13, n, 0) ∧ j = 5) → l ≠ (24, n, a 2) → l ≠ (25, n, a 2) → l ≠ (20, n, 0) → ¬ (l = (21, n, x) ∧ j = 6) → ¬ (l = (22, n, x) ∧ j = (q x).length) → M' l j = M l j) : nw n (sn a x y z) M' ar := by
  have b2 := hok.1.2.1
  have hs := nd_le (k := 8) (z := z)
  have hlo : ∀ i, i < 60 → i ≠ 2 → i ≠ 3 → _root_.Jvm.Pilot.CBellTelegraphLaw_law_r3965_e4c15b.sn a x y z i = a i := fun i hi g2 g3 => sn_o g2 g3 (by omega)
  have hme : ∀ m f, m < a 2 → f < 19 → _root_.Jvm.Pilot.CBellTelegraphLaw_law_r3965_e4c15b.sn a x y z (60 + 19 * m + f) = a (60 + 19 * m + f) := fun m f g1 g2 => sn_o (by omega) (by omega) (by omega)
  have e1 := hlo 1 (by omega) (by omega) (by omega)
  have Hk : ∀ t k j, t = 24 ∨ t = 25 → k < a 2 → M' (t, n, k) j = M (t, n, k) j := fun t k j ht hk => Ho _ _ (fun q => by have := (pl_e q.1).1; omega) (fun q => by have := (pl_e q).2.2; omega) (fun q => by have := (pl_e q).2.2; omega) (fun q => by have := (pl_e q).1; omega) (fun q => by have := (pl_e q.1).1; omega) (fun q => by have := (pl_e q.1).1; omega)
  have Ht : ∀ t k j, (t = 13 ∧ j ≠ 5) ∨ t = 16 ∨ t = 18 ∨ (t = 21 ∧ (k ≠ x ∨ j ≠ 6)) ∨ (t = 22 ∧ (k ≠ x ∨ j ≠ (q x).length)) ∨ t = 23 → M' (t, n, k) j = M (t, n, k) j := fun t k j ht => Ho _ _ (fun q => by have := pl_e q.1; omega) (fun q => by have := (pl_e q).1; omega) (fun q => by have := (pl_e q).1; omega) (fun q => by have := (pl_e q).1; omega) (fun q => by have := pl_e q.1; omega) (fun q => by have := pl_e q.1; omega)
  refine ⟨⟨fun t k j hG => ?_, fun m hm' => ?_⟩, fun c => if c = x then q c ++ [a 2] else q c, fun c hc => ?_, ⟨?_, fun i u hu => ?_⟩, ⟨fun c hc => ?_, ?_, fun m hm' => ?_⟩, fun m hm' => ?_⟩
  · rcases hG.t with rfl | rfl | rfl | rfl | rfl | rfl
    · obtain ⟨rfl, hj⟩ := hG
      rcases hj with rfl | rfl | rfl
      · rw [Ht 13 0 0 (by omega), h1 13 0 0 ⟨rfl, by omega⟩]
        exact congrArg nI (hlo 0 (by omega) (by omega) (by omega)).symm
      · rw [Ht 13 0 1 (by omega), h1 13 0 1 ⟨rfl, by omega⟩]
        exact congrArg nI e1.symm
      · rw [H5]
        exact congrArg nI sn_2.symm
    · obtain ⟨rfl, hj⟩ := hG
      rw [Ht 16 0 j (by omega), h1 16 0 j ⟨rfl, hj⟩]
      show nI (a (3 + j)) = nI (_root_.Jvm.Pilot.CBellTelegraphLaw_law_r3965_e4c15b.sn a x y z (3 + j))
      rw [hlo (3 + j) (by omega) (by omega) (by omega)]
    · obtain ⟨hk, hj⟩ := hG
      rw [e1] at hk
      rw [Ht 21 k j (by omega), h1 21 k j ⟨hk, hj⟩]
      show nI (a (12 + 6 * k + j)) = nI (_root_.Jvm.Pilot.CBellTelegraphLaw_law_r3965_e4c15b.sn a x y z (12 + 6 * k + j))
      have := hok.1.1
      rw [hlo (12 + 6 * k + j) (by omega) (by omega) (by omega)]
    · obtain ⟨hk, hj⟩ := hG
      rw [e1] at hk
      rw [Ht 23 k j (by omega), h1 23 k j ⟨hk, hj⟩]
      show nI (a (48 + 2 * k + j)) = nI (_root_.Jvm.Pilot.CBellTelegraphLaw_law_r3965_e4c15b.sn a x y z (48 + 2 * k + j))
      have := hok.1.1
      rw [hlo (48 + 2 * k + j) (by omega) (by omega) (by omega)]
    · obtain ⟨hk, hj, hj5⟩ := hG
      rw [sn_2] at hk
      have hf := nw_f_lt j
      show _ = nI (_root_.Jvm.Pilot.CBellTelegraphLaw_law_r3965_e4c15b.sn a x y z (60 + 19 * k + nw_f j))
      by_cases hk1 : k = a 2
      · subst hk1
        rw [H24 j hj, if_neg hj5, sn_at (by omega)]
      · rw [Hk 24 k j (by omega) (by omega), h1 24 k j ⟨by omega, hj, hj5⟩, hme k _ (by omega) (by omega)]
        rfl
    · obtain ⟨hk, hj⟩ := hG
      rw [sn_2] at hk
      show _ = nI (_root_.Jvm.Pilot.CBellTelegraphLaw_law_r3965_e4c15b.sn a x y z (60 + 19 * k + (11 + j)))
      by_cases hk1 : k = a 2
      · subst hk1
        rw [sn_at (by decide)] at hj
        have hj' : j < nd 8 z := hj
        rw [H25 j hj', sn_s hj']
      · rw [hme k 3 (by omega) (by omega)] at hj
        have := (hok.2 k (by omega)).2.2.2.2.1
        rw [Hk 25 k j (by omega) (by omega), h1 25 k j ⟨by omega, hj⟩, hme k _ (by omega) (by omega)]
        rfl
  · rw [sn_2] at hm'
    by_cases hk1 : m = a 2
    · subst hk1
      rw [H24 5 (by decide)]
      unfold nw_pl
      rw [sn_at (by decide), sn_at (by decide), sn_at (by decide)]
      rfl
    · rw [Hk 24 m 5 (by omega) (by omega), h5 m (by omega)]
      unfold nw_pl
      rw [hme m _ (by omega) (by omega), hme m _ (by omega) (by omega), hme m _ (by omega) (by omega)]
  · rw [e1] at hc
    dsimp only
    obtain ⟨g1, g2⟩ := hQ c hc
    by_cases hcx : c = x
    · subst hcx
      rw [if_pos rfl, List.length_append]
      refine ⟨H21, fun i u hu => ?_⟩
      rcases Nat.lt_or_ge i (q c).length with hi | hi
      · rw [List.getElem?_append_left hi] at hu
        rw [Ht 22 c i (by omega)]
        exact g2 i u hu
      · rw [List.getElem?_append_right hi] at hu
        have hi2 : i - (q c).length = 0 := by
          rcases Nat.eq_zero_or_pos (i - (q c).length) with z | z
          · exact z
          · rw [List.getElem?_eq_none (by rw [List.length_singleton]; omega)] at hu
            exact absurd hu (by simp)
        rw [hi2] at hu
        have : a 2 = u := Option.some.inj hu
        rw [show i = (q c).length by omega, H22, this]
    · rw [if_neg hcx]
      exact ⟨by rw [Ht 21 c 6 (by omega)]; exact g1, fun i u hu => by rw [Ht 22 c i (by omega)]; exact g2 i u hu⟩
  · rw [Ht 13 0 7 (by omega)]; exact hR.1
  · rw [Ht 18 0 i (by omega)]; exact hR.2 i u hu
  · rw [e1] at hc
    have hqc := hl.1 c hc
    have hinc : l_inc (fun m => _root_.Jvm.Pilot.CBellTelegraphLaw_law_r3965_e4c15b.sn a x y z (60 + 19 * m + 8)) (q c) := hqc.1.to (fun m hm' => hme m 8 ((hqc.2 m).mp hm').1 (by omega))
    dsimp only
    by_cases hcx : c = x
    · subst hcx
      rw [if_pos rfl]
      refine ⟨hinc.snoc (fun m hm' => ?_), fun m => ?_⟩
      · have g := ((hqc.2 m).mp hm').1
        show _root_.Jvm.Pilot.CBellTelegraphLaw_law_r3965_e4c15b.sn a c y z (60 + 19 * m + 8) < _root_.Jvm.Pilot.CBellTelegraphLaw_law_r3965_e4c15b.sn a c y z (60 + 19 * a 2 + 8)
        rw [hme m 8 g (by omega), sn_at (by decide)]
        exact hl.2.2 m g
      · rw [List.mem_append, List.mem_singleton, hqc.2 m, sn_2]
        by_cases hk1 : m = a 2
        · subst hk1
          rw [sn_at (by decide), sn_at (by decide)]
          exact ⟨fun _ => ⟨by omega, rfl, rfl⟩, fun _ => Or.inr rfl⟩
        · constructor
          · rintro (z | z)
            · exact ⟨by omega, by rw [hme m 6 z.1 (by omega)]; exact z.2.1, by rw [hme m 2 z.1 (by omega)]; exact z.2.2⟩
            · exact absurd z hk1
          · rintro ⟨z1, z2, z3⟩
            have z1' : m < a 2 := by omega
            rw [hme m 6 z1' (by omega)] at z2
            rw [hme m 2 z1' (by omega)] at z3
            exact Or.inl ⟨z1', z2, z3⟩
    · rw [if_neg hcx]
      refine ⟨hinc, fun m => ?_⟩
      rw [hqc.2 m, sn_2]
      by_cases hk1 : m = a 2
      · subst hk1
        rw [sn_at (f := 2) (by decide)]
        exact ⟨fun z => absurd z.1 (by omega), fun z => absurd z.2.2 (fun e => hcx e.symm)⟩
      · constructor
        · intro z
          exact ⟨by omega, by rw [hme m 6 z.1 (by omega)]; exact z.2.1, by rw [hme m 2 z.1 (by omega)]; exact z.2.2⟩
        · rintro ⟨z1, z2, z3⟩
          have z1' : m < a 2 := by omega
          rw [hme m 6 z1' (by omega)] at z2
          rw [hme m 2 z1' (by omega)] at z3
          exact ⟨z1', z2, z3⟩
  · refine ⟨hl.2.1.1.to (fun m hm' => hme m 8 ((hl.2.1.2 m).mp hm').1 (by omega)), fun m => ?_⟩
    rw [hl.2.1.2 m, sn_2]
    by_cases hk1 : m = a 2
    · subst hk1
      rw [sn_at (f := 6) (by decide)]
      exact ⟨fun z => absurd z.1 (by omega), fun z => absurd z.2 (by show ¬ (0 = 1); decide)⟩
    · constructor
      · intro z
        exact ⟨by omega, by rw [hme m 6 z.1 (by omega)]; exact z.2⟩
      · rintro ⟨z1, z2⟩
        have z1' : m < a 2 := by omega
        rw [hme m 6 z1' (by omega)] at z2
        exact ⟨z1', z2⟩
  · rw [sn_2] at hm'
    rw [sn_3]
    by_cases hk1 : m = a 2
    · subst hk1
      rw [sn_at (f := 8) (by decide)]
      exact Nat.lt_succ_self _
    · rw [hme m 8 (by omega) (by omega)]
      have := hl.2.2 m (by omega)
      omega
  · rw [sn_2] at hm'
    by_cases hk1 : m = a 2
    · subst hk1
      rw [sn_at (f := 10) (by decide)]
      rfl
    · rw [hme m 10 (by omega) (by omega)]
      exact hg m (by omega)
end Kc3
