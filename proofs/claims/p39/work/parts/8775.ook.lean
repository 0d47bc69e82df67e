/-! AFTER A COMMAND THE ROW IS SOUND AGAIN -/
theorem ml_ok.mono {B B' : Nat} {a : Nat → Nat} (h : ml_ok B a) (hB : B ≤ B') : ml_ok B' a := ⟨h.1.mono hB, h.2⟩
theorem ml_ok.lo {B i v : Nat} {a : Nat → Nat} (h : ml_ok B a) (hB : 1000 ≤ B) (h4 : 4 ≤ i) (h60 : i < 60) (hv : v < 100 ∨ (i < 12 ∧ v < 1000)) : ml_ok B (nu a i v) := by
  have e : ∀ j, j < 4 ∨ 60 ≤ j → nu a i v j = a j := fun j hj => nu_ne (by omega)
  refine ⟨h.1.nu (by omega) (by omega) (by omega) (fun m f _ _ _ _ q => by omega) (fun c f _ _ q => by omega) (by omega) (by omega), fun m hm => ?_⟩
  rw [e 2 (by omega)] at hm
  rw [e 1 (by omega), e (60 + 19 * m + 0) (by omega), e (60 + 19 * m + 1) (by omega), e (60 + 19 * m + 2) (by omega), e (60 + 19 * m + 3) (by omega), e (60 + 19 * m + 4) (by omega), e (60 + 19 * m + 5) (by omega), e (60 + 19 * m + 6) (by omega), e (60 + 19 * m + 9) (by omega), e (60 + 19 * m + 10) (by omega)]
  obtain ⟨g1, g2, g3, g4, g5, g6, g7, g8, g9, g10, g11, g12⟩ := h.2 m hm
  exact ⟨g1, g2, g3, g4, g5, g6, g7, g8, g9, g10, fun k hk => by rw [e _ (by omega)]; exact g11 k hk, g12⟩
section Kok
variable {B : Nat} {a : Nat → Nat}
/-- an answer is small, and the row after it sound -/
def okO (B : Nat) : Out → Prop
  | .inl (v, a') => v < 2147483648 ∧ ml_ok (B + 20000) a'
  | .inr _ => True
theorem okO_sil {x y z : Int32} (hB : 1000 ≤ B) (h : ml_ok B a) : okO B (o_sil a x y z) := by
  unfold o_sil
  split
  · rename_i hx
    split
    · rename_i hyz
      obtain ⟨x, hx', hx2, rfl⟩ := in_nI hx
      obtain ⟨y, _, hy', rfl⟩ := bt_nI (by omega) (by omega) hyz.1
      obtain ⟨z, _, hz', rfl⟩ := bt_nI (by omega) (by omega) hyz.2
      have := h.1.1
      rw [cN_nI hx2, cN_nI (by omega), cN_nI (by omega)]
      exact ⟨by have := Nat.mod_lt (z + 24 - y) (show 0 < 24 by decide); omega, ((h.lo hB (by omega) (by omega) (by omega)).lo hB (by omega) (by omega) (by omega)).mono (by omega)⟩
    · trivial
  · trivial
theorem okO_win {x y : Int32} (hB : 1000 ≤ B) (h : ml_ok B a) : okO B (o_win a x y) := by
  unfold o_win
  split
  · rename_i hx
    split
    · rename_i hy
      obtain ⟨x, hx', hx2, rfl⟩ := in_nI hx
      obtain ⟨y, _, hy', rfl⟩ := bt_nI (by omega) (by omega) hy
      have h1 := h.1.1
      have := h.1.2.2.2.2.2.2 (48 + 2 * x + 1) (by omega) (by omega)
      rw [cN_nI hx2, cN_nI (by omega)]
      exact ⟨by omega, (h.lo hB (by omega) (by omega) (by omega)).mono (by omega)⟩
    · trivial
  · trivial
theorem okO_ear {x y : Int32} (hB : 1000 ≤ B) (h : ml_ok B a) : okO B (o_ear a x y) := by
  unfold o_ear
  split
  · rename_i hx
    split
    · rename_i hy
      obtain ⟨x, hx', hx2, rfl⟩ := in_nI hx
      obtain ⟨y, _, hy', rfl⟩ := bt_nI (by omega) (by omega) hy
      have h1 := h.1.1
      have := h.1.2.2.2.2.1 x 1 (by omega) (by omega)
      rw [cN_nI hx2, cN_nI (by omega)]
      exact ⟨by omega, (h.lo hB (by omega) (by omega) (by omega)).mono (by omega)⟩
    · trivial
  · trivial
theorem okO_psl {x y : Int32} (hB : 1000 ≤ B) (h : ml_ok B a) : okO B (o_psl a x y) := by
  unfold o_psl
  split
  · rename_i hx
    split
    · rename_i hy
      obtain ⟨x, hx1, hx8, rfl⟩ := bt_nI (by omega) (by omega) hx
      obtain ⟨y, hy1, hy8, rfl⟩ := bt_nI (by omega) (by omega) hy
      have := h.1.2.2.2.2.2.1 (3 + x) (by omega) (by omega)
      rw [cN_nI (by omega), cN_nI (by omega)]
      split
      · trivial
      · exact ⟨by omega, (h.lo hB (by omega) (by omega) (by omega)).mono (by omega)⟩
    · trivial
  · trivial
theorem okO_drp {x : Int32} (hB : 1000 ≤ B) (h : ml_ok B a) (hz : ∀ m, m < a 2 → a (60 + 19 * m + 10) = 0) : okO B (o_drp a x) := by
  unfold o_drp
  split
  · rename_i hx
    split
    · rename_i h0
      obtain ⟨x, hx', hx2, rfl⟩ := in_nI hx
      have h1 := h.1.1
      have h2 := h.1.2.1
      rw [cN_nI hx2]
      obtain ⟨g1, g2, g3, g4, g5, g6, g7, g8, g9, g10, g11, g12, g13⟩ := h.2 x hx'
      have e : ∀ j, j ≠ 60 + 19 * x + 6 → nu a (60 + 19 * x + 6) 2 j = a j := fun j hj => nu_ne hj
      refine ⟨by omega, (show ml_ok B _ from ⟨h.1.nu (by omega) (by omega) (by omega) (fun m f _ _ _ _ q => by omega) (fun c f _ _ q => by omega) (by omega) (by omega), fun m hm => ?_⟩).mono (by omega)⟩
      rw [e 2 (by omega)] at hm
      rw [e 1 (by omega), e (60 + 19 * m + 0) (by omega), e (60 + 19 * m + 1) (by omega), e (60 + 19 * m + 2) (by omega), e (60 + 19 * m + 3) (by omega), e (60 + 19 * m + 4) (by omega), e (60 + 19 * m + 5) (by omega), e (60 + 19 * m + 9) (by omega), e (60 + 19 * m + 10) (by omega)]
      by_cases hmx : m = x
      · subst hmx
        rw [nu_eq]
        exact ⟨g1, g2, g3, g4, g5, g6, g7, Nat.le_refl _, g9, g10, fun k hk => by rw [e _ (by omega)]; exact g11 k hk, fun q => absurd q (by decide), fun q => absurd (hz m hm) q⟩
      · rw [e (60 + 19 * m + 6) (by omega)]
        obtain ⟨g1, g2, g3, g4, g5, g6, g7, g8, g9, g10, g11, g12⟩ := h.2 m hm
        exact ⟨g1, g2, g3, g4, g5, g6, g7, g8, g9, g10, fun k hk => by rw [e _ (by omega)]; exact g11 k hk, g12⟩
    · trivial
  · trivial
theorem cnv_b {x y z : Nat} (hc : a 1 < 6) (hx : x ≤ 9) (hy : y ≤ 9) (hz : 0 < a 1 → z ≤ 9) {i : Nat} (h1 : i ≠ 1) : cnv a x y z i = a i ∨ cnv a x y z i ≤ 9 := by
  by_cases h2 : i < 12 + 6 * a 1 ∨ 12 + 6 * a 1 + 6 ≤ i
  · by_cases h0 : 0 < a 1
    · obtain ⟨z1, z2⟩ := cnv_z (x := x) (y := y) (z := z) hc h0
      by_cases h3 : i = 48 + 2 * (a 1 - 1)
      · rw [h3, z1]; exact Or.inr (hz h0)
      · by_cases h4 : i = 48 + 2 * (a 1 - 1) + 1
        · rw [h4, z2]; exact Or.inr (by omega)
        · exact Or.inl (cnv_o h1 h2 (fun _ => ⟨h3, h4⟩))
    · exact Or.inl (cnv_o h1 h2 (fun q => absurd q h0))
  · have e : i = 12 + 6 * a 1 + (i - (12 + 6 * a 1)) := by omega
    rw [e, cnv_f hc (by omega)]
    refine Or.inr ?_
    split
    · exact hx
    · split
      · exact hy
      · omega
theorem okO_cnv {x y z : Int32} (hB : 1000 ≤ B) (h : ml_ok B a) : okO B (o_cnv a x y z) := by
  unfold o_cnv
  split
  · rename_i hxyz
    split
    · trivial
    · rename_i h6
      obtain ⟨x, _, hx', rfl⟩ := bt_nI (by omega) (by omega) hxyz.1
      obtain ⟨y, _, hy', rfl⟩ := bt_nI (by omega) (by omega) hxyz.2.1
      have hz' : 0 < a 1 → cN z ≤ 9 := fun q => by
        obtain ⟨z, _, hz', rfl⟩ := bt_nI (by omega) (by omega) (hxyz.2.2 q)
        rw [cN_nI (by omega)]
        exact hz'
      rw [cN_nI (by omega), cN_nI (by omega)]
      generalize cN z = z at hz' ⊢
      obtain ⟨⟨b1, b2, b3, b4, b5, b6, b7⟩, hw⟩ := h
      have hc : a 1 < 6 := by omega
      have eb := fun i (hi : i ≠ 1) => cnv_b (x := x) (y := y) (z := z) hc hx' hy' hz' hi
      have eo : ∀ i, 60 ≤ i → cnv a x y z i = a i := fun i hi => cnv_o (by omega) (by omega) (fun _ => by omega)
      have e2 : cnv a x y z 2 = a 2 := cnv_o (by omega) (by omega) (fun _ => by omega)
      refine ⟨by omega, (show ml_ok B _ from ⟨⟨?_, ?_, fun j hj => ?_, fun m f hm hf h7 h8 => ?_, fun c f hc' hf => ?_, fun j h4 h12 => ?_, fun j h48 h60 => ?_⟩, fun m hm => ?_⟩).mono (by omega)⟩
      · rw [cnv_1]; omega
      · rw [e2]; exact b2
      · by_cases hj1 : j = 1
        · subst hj1; rw [cnv_1]; omega
        · have := b3 j hj
          have := eb j hj1
          omega
      · rw [eo _ (by omega)]; exact b4 m f hm hf h7 h8
      · have := b5 c f hc' hf
        have := eb (12 + 6 * c + f) (by omega)
        omega
      · have := b6 j h4 h12
        have := eb j (by omega)
        omega
      · have := b7 j h48 h60
        have := eb j (by omega)
        omega
      · rw [e2] at hm
        obtain ⟨g1, g2, g3, g4, g5, g6, g7, g8, g9, g10, g11, g12⟩ := hw m hm
        rw [cnv_1, eo (60 + 19 * m + 0) (by omega), eo (60 + 19 * m + 1) (by omega), eo (60 + 19 * m + 2) (by omega), eo (60 + 19 * m + 3) (by omega), eo (60 + 19 * m + 4) (by omega), eo (60 + 19 * m + 5) (by omega), eo (60 + 19 * m + 6) (by omega), eo (60 + 19 * m + 9) (by omega), eo (60 + 19 * m + 10) (by omega)]
        exact ⟨by omega, by omega, by omega, g4, g5, g6, g7, g8, g9, g10, fun k hk => by rw [eo _ (by omega)]; exact g11 k hk, g12⟩
  · trivial
theorem okO_pas {x : Int32} (hB : 1000 ≤ B) (h : ml_ok B a) : okO B (o_pas a x) := by
  unfold o_pas
  split
  · rename_i hx
    obtain ⟨x, hx1, hx', rfl⟩ := bt_nI (by omega) (by omega) hx
    rw [cN_nI (by omega)]
    have hv : ∀ k, (ml_ps a k).2 ≤ 16 * k := by
      intro k
      induction k with
      | zero => exact Nat.le_refl _
      | succ k ih =>
        have e := (ml_goes_ok (B := B + 200 * k) (by omega) (ml_ps_ok hB h k)).2.2.2
        show (ml_ps a k).2 + ml_arr (ml_ps a k).1 ≤ _
        omega
    have := hv x
    exact ⟨by omega, (ml_ps_ok hB h x).mono (by omega)⟩
  · trivial
theorem sn_c {x y z : Nat} (i : Nat) : (i = 2) ∨ (i = 3) ∨ (∃ f, f < 11 ∧ i = 60 + 19 * a 2 + f) ∨ (∃ k, k < 8 ∧ i = 60 + 19 * a 2 + (11 + k)) ∨ sn a x y z i = a i := by
  by_cases h2 : i = 2
  · exact Or.inl h2
  by_cases h3 : i = 3
  · exact Or.inr (Or.inl h3)
  by_cases h : i < 60 + 19 * a 2 ∨ 60 + 19 * a 2 + 19 ≤ i
  · exact Or.inr (Or.inr (Or.inr (Or.inr (sn_o h2 h3 h))))
  · by_cases h11 : i < 60 + 19 * a 2 + 11
    · exact Or.inr (Or.inr (Or.inl ⟨i - (60 + 19 * a 2), by omega, by omega⟩))
    · exact Or.inr (Or.inr (Or.inr (Or.inl ⟨i - (60 + 19 * a 2 + 11), by omega, by omega⟩)))
theorem sn_v_b {x y s h p f : Nat} (hx : x < 6) (hy : y < 6) (hs : s ≤ 8) (h7 : f ≠ 7) (h8 : f ≠ 8) : sn_v x y s h p f ≤ 8 := by
  unfold sn_v
  split
  · omega
  split
  · omega
  split
  · omega
  split
  · omega
  split <;> omega
theorem sn_sg {x y z k : Nat} (hk : k < 8) (hd : dgk z) : sn a x y z (60 + 19 * a 2 + (11 + k)) ≤ 8 := by
  by_cases h : k < nd 8 z
  · rw [sn_s h]
    exact (hd _ (by omega)).2
  · rw [sn_s0 (by omega) hk]
    omega
theorem ok_sn {x y z : Nat} (hB : 1000 ≤ B) (h : ml_ok B a) (hx : x < a 1) (hy : y < a 1) (hxy : x ≠ y) (hn1 : 0 < nd 8 z) (hd : dgk z) (h16 : a 2 < 16) : ml_ok (B + 1) (sn a x y z) := by
  obtain ⟨⟨b1, b2, b3, b4, b5, b6, b7⟩, hw⟩ := h
  have hs := nd_le (k := 8) (z := z)
  have e1 : sn a x y z 1 = a 1 := sn_o (by omega) (by omega) (by omega)
  have hlo : ∀ i, i < 60 → i ≠ 2 → i ≠ 3 → sn a x y z i = a i := fun i hi g2 g3 => sn_o g2 g3 (by omega)
  refine ⟨⟨by rw [e1]; exact b1, by rw [sn_2]; omega, fun j hj => ?_, fun m f hm hf h7 h8 => ?_, fun c f hc' hf => ?_, fun j h4 h12 => ?_, fun j h48 h60 => ?_⟩, fun m hm => ?_⟩
  · rcases sn_c (a := a) (x := x) (y := y) (z := z) j with rfl | rfl | ⟨f, hf, rfl⟩ | ⟨k, hk, rfl⟩ | e
    · rw [sn_2]; omega
    · rw [sn_3]
      have := b3 3 (by omega)
      omega
    · rw [sn_at hf]
      have q0 := b3 0 (by omega)
      have q3 := b3 3 (by omega)
      by_cases h7 : f = 7
      · subst h7
        show a 0 ≤ _
        omega
      · by_cases h8 : f = 8
        · subst h8
          show a 3 ≤ _
          omega
        · have := sn_v_b (x := x) (y := y) (s := nd 8 z) (h := a 0) (p := a 3) (by omega) (by omega) hs h7 h8
          omega
    · have := sn_sg (a := a) (x := x) (y := y) hk hd
      omega
    · rw [e]
      have := b3 j hj
      omega
  · rcases sn_c (a := a) (x := x) (y := y) (z := z) (60 + 19 * m + f) with e | e | ⟨f', hf', e⟩ | ⟨k, hk, e⟩ | e
    · omega
    · omega
    · have hm2 : m = a 2 := by omega
      have hff : f = f' := by omega
      subst hff
      rw [e, sn_at hf']
      have := sn_v_b (x := x) (y := y) (s := nd 8 z) (h := a 0) (p := a 3) (by omega) (by omega) hs h7 h8
      omega
    · rw [e]
      have := sn_sg (a := a) (x := x) (y := y) hk hd
      omega
    · rw [e]
      exact b4 m f hm hf h7 h8
  · rw [hlo _ (by omega) (by omega) (by omega)]
    exact b5 c f hc' hf
  · rw [hlo _ (by omega) (by omega) (by omega)]
    exact b6 j h4 h12
  · rw [hlo _ (by omega) (by omega) (by omega)]
    exact b7 j h48 h60
  · rw [sn_2] at hm
    rw [e1]
    by_cases hk1 : m = a 2
    · subst hk1
      rw [sn_at (by decide), sn_at (by decide), sn_at (by decide), sn_at (by decide), sn_at (by decide), sn_at (by decide), sn_at (by decide), sn_at (by decide), sn_at (by decide)]
      exact ⟨hx, hy, hx, hn1, hs, hn1, Nat.zero_le _, Nat.zero_le _, Nat.le_refl _, Nat.zero_le _, fun k hk => sn_sg hk hd, fun _ => hxy, fun q => absurd rfl q⟩
    · have hme : ∀ f, f < 19 → sn a x y z (60 + 19 * m + f) = a (60 + 19 * m + f) := fun f g2 => sn_o (by omega) (by omega) (by omega)
      obtain ⟨g1, g2, g3, g4, g5, g6, g7, g8, g9, g10, g11, g12⟩ := hw m (by omega)
      rw [hme 0 (by omega), hme 1 (by omega), hme 2 (by omega), hme 3 (by omega), hme 4 (by omega), hme 5 (by omega), hme 6 (by omega), hme 9 (by omega), hme 10 (by omega)]
      exact ⟨g1, g2, g3, g4, g5, g6, g7, g8, g9, g10, fun k hk => by rw [hme _ (by omega)]; exact g11 k hk, g12⟩
theorem okO_snd {x y z : Int32} (hB : 1000 ≤ B) (h : ml_ok B a) : okO B (o_snd a x y z) := by
  unfold o_snd
  split
  · rename_i hx
    split
    · rename_i hy
      split
      · trivial
      · rename_i hne
        split
        · rename_i hz
          split
          · rename_i hd
            split
            · trivial
            · split
              · trivial
              · rename_i h16
                obtain ⟨x, hx', hx2, rfl⟩ := in_nI hx
                obtain ⟨y, hy', hy2, rfl⟩ := in_nI hy
                obtain ⟨z, hz1, hz2, rfl⟩ := bt_nI (by omega) (by omega) hz
                have b2 := h.1.2.1
                have hz8 : z < 10 ^ 8 := Nat.lt_of_le_of_lt hz2 (by decide)
                rw [cN_nI (by omega)] at hd
                rw [cN_nI hx2, cN_nI hy2, cN_nI (by omega)]
                exact ⟨by omega, (ok_sn hB h hx' hy' (fun e => hne (by rw [e])) ((nd_iff hz8 0).mpr (by rw [Nat.pow_zero]; exact hz1)) hd (by omega)).mono (by omega)⟩
          · trivial
        · trivial
    · trivial
  · trivial
end Kok
