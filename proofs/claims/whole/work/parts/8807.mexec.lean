/-! THE REFERENCE CARRIES A READ COMMAND OUT -/
section Kmx
variable {d B : Nat} {M M' : am_M} {a : Nat → Nat} {w : am_W4}
theorem am_mo_ret {o : Out} {K : Option am_V → am_M → am_X → Option am_R} (hK : ∀ s M', K (some (am_I s)) M' (am_Z w) = if am_pc 1 s = true then some (.inl (some (am_I s)), M', am_Z w) else none) : am_cb (am_mo M a w o) K = am_mo M a w o := by
  rcases o with ⟨v, a'⟩ | ⟨q, x⟩
  · unfold am_mo
    rw [am_cb_i, hK, if_pos pc1]
  · unfold am_mo
    rw [am_cb_i, hK, if_pos pc0]
theorem k182 {k x y z : Nat} (hB0 : 1000 ≤ B) (hB : B < 1070000000) (hok : ml_ok B a) (h31 : ∀ j, M (31, 0, 0) j = nI (a j)) (hk : k ≤ 7) (hk0 : k ≠ 0) (hk1 : k ≠ 1) (h12 : M (30, 0, 0) 12 = nI (ltr k)) (hx : M (38, 0, 0) 0 = nI x) (hy : k ≠ 6 → k ≠ 7 → M (38, 0, 0) 1 = nI y) (hz : k = 2 ∨ k = 5 → M (38, 0, 0) 2 = nI z) : am_ev (d + 7) 182 [am_P (30, 0, 0)] M (am_Z w) = am_mo M a w (oC a k (nI x) (nI y) (nI z)) := by
  have e0 : am_pA M a = M := am_pA_self h31
  rw [e182, h12, hx]
  have hk' : k = 2 ∨ k = 3 ∨ k = 4 ∨ k = 5 ∨ k = 6 ∨ k = 7 := by omega
  rcases hk' with rfl | rfl | rfl | rfl | rfl | rfl
  · rw [show ltr 2 = 113 from rfl, if_neg (by decide), if_neg (by decide), if_pos rfl, hy (by decide) (by decide), hz (Or.inl rfl)]
    have e1 := k134 (d := d + 3) (M := M) (a := a) (w := w) (x := nI x) (y := nI y) (z := nI z) hok.1.1
    rw [e0] at e1
    rw [e1, show oC a 2 (nI x) (nI y) (nI z) = o_sil a (nI x) (nI y) (nI z) from rfl]
    exact am_mo_ret (fun s M' => b182_123)
  · rw [show ltr 3 = 119 from rfl, if_neg (by decide), if_neg (by decide), if_neg (by decide), if_neg (by decide), if_pos rfl, hy (by decide) (by decide)]
    have e1 := k136 (d := d + 3) (M := M) (a := a) (w := w) (x := nI x) (y := nI y) hok.1.1
    rw [e0] at e1
    rw [e1, show oC a 3 (nI x) (nI y) (nI z) = o_win a (nI x) (nI y) from rfl]
    exact am_mo_ret (fun s M' => b182_140)
  · rw [show ltr 4 = 101 from rfl, if_neg (by decide), if_neg (by decide), if_neg (by decide), if_neg (by decide), if_neg (by decide), hy (by decide) (by decide)]
    have e1 := k138 (d := d + 3) (M := M) (a := a) (w := w) (x := nI x) (y := nI y) hok.1.1
    rw [e0] at e1
    rw [e1, show oC a 4 (nI x) (nI y) (nI z) = o_ear a (nI x) (nI y) from rfl]
    exact am_mo_ret (fun s M' => b182_157)
  · rw [show ltr 5 = 115 from rfl, if_neg (by decide), if_neg (by decide), if_neg (by decide), if_pos rfl, hy (by decide) (by decide), hz (Or.inr rfl)]
    have e1 := k140 (d := d + 3) (M := M) (a := a) (w := w) (x := nI x) (y := nI y) (z := nI z) hok.1 (by omega)
    rw [e0] at e1
    rw [e1, show oC a 5 (nI x) (nI y) (nI z) = o_snd a (nI x) (nI y) (nI z) from rfl]
    exact am_mo_ret (fun s M' => b182_78)
  · rw [show ltr 6 = 100 from rfl, if_pos rfl]
    have e1 := k142 (d := d + 3) (M := M) (a := a) (w := w) (x := nI x) hok.1
    rw [e0] at e1
    rw [e1, show oC a 6 (nI x) (nI y) (nI z) = o_drp a (nI x) from rfl]
    exact am_mo_ret (fun s M' => b182_100)
  · rw [show ltr 7 = 104 from rfl, if_neg (by decide), if_pos rfl]
    have e1 := k154 (d := d) (M := M) (a := a) (w := w) (x := nI x) hB0 hB hok
    rw [e0] at e1
    rw [e1, show oC a 7 (nI x) (nI y) (nI z) = o_pas a (nI x) from rfl]
    exact am_mo_ret (fun s M' => b182_89)
end Kmx
