/-! THE CLASS: CARRY OUT; WHAT IT HOLDS BETWEEN TWO CALLS -/
/-- a command by its number -/
def oC (a : Nat → Nat) (k : Nat) (x y z : Int32) : Out :=
  if k = 0 then o_cnv a x y z else if k = 1 then o_psl a x y else if k = 2 then o_sil a x y z else if k = 3 then o_win a x y else if k = 4 then o_ear a x y else if k = 5 then o_snd a x y z else if k = 6 then o_drp a x else o_pas a x
section Kc5
variable {d n B : Nat} {M M' M0 : am_M} {a b : Nat → Nat} {w : am_W4} {ar : List Nat} {o : Out}
theorem clO.ret {r : Option am_R} {K : Option am_V → am_M → am_X → Option am_R} (h : clO n M w ar a r o) (hK : ∀ s M', K (some (am_I s)) M' (am_Z w) = some (.inl (some (am_I s)), M', am_Z w)) : clO n M w ar a (am_cb r K) o := by
  rcases o with ⟨v, a'⟩ | ⟨q, x⟩
  · obtain ⟨M', ar', rfl, h2, h3⟩ := h
    exact ⟨M', ar', by rw [am_cb_i, hK], h2, h3⟩
  · obtain ⟨M', rfl, h2⟩ := h
    exact ⟨M', by rw [am_cb_i, hK], h2⟩
theorem k39 {l : am_L} {k : Nat} (hl : am_ck l 0) (hn : n < 12) (hB0 : 1000 ≤ B) (hB : B < 1070000000) (hok : ml_ok B a) (h : nw n a M ar) (hk : k ≤ 7) (h0 : M l 0 = nI k) : clO n M w ar a (am_ev (d + 7) 39 [am_P (13, n, 0), am_P l, am_P (6, 0, 0)] M (am_Z w)) (oC a k (M l 1) (M l 2) (M l 3)) := by
  rw [e39 hn hl, h0]
  unfold oC
  have hk8 : k = 0 ∨ k = 1 ∨ k = 2 ∨ k = 3 ∨ k = 4 ∨ k = 5 ∨ k = 6 ∨ k = 7 := by omega
  rcases hk8 with rfl | rfl | rfl | rfl | rfl | rfl | rfl | rfl
  · exact (k40 (d := d + 4) hn hok h).ret (fun s M' => b39_65 hn hl)
  · exact (k41 (d := d + 4) hn hok h).ret (fun s M' => b39_79 hn hl)
  · exact (k42 (d := d + 4) hn hok h).ret (fun s M' => b39_97 hn hl)
  · exact (k43 (d := d + 4) hn hok h).ret (fun s M' => b39_111 hn hl)
  · exact (k44 (d := d + 4) hn hok h).ret (fun s M' => b39_125 hn hl)
  · exact (k45 (d := d + 2) hn hok h).ret (fun s M' => b39_143 hn hl)
  · exact (k47 (d := d + 4) hn hok h).ret (fun s M' => b39_153 hn hl)
  · exact (k48 (d := d) hn hB0 hB hok h).ret (fun s M' => b39_163 hn hl)
end Kc5
theorem okO_C {B k : Nat} {a : Nat → Nat} {x y z : Int32} (hB : 1000 ≤ B) (h : ml_ok B a) (hz : ∀ m, m < a 2 → a (60 + 19 * m + 10) = 0) : okO B (oC a k x y z) := by
  unfold oC
  split
  · exact okO_cnv hB h
  split
  · exact okO_psl hB h
  split
  · exact okO_sil hB h
  split
  · exact okO_win hB h
  split
  · exact okO_ear hB h
  split
  · exact okO_snd hB h
  split
  · exact okO_drp hB h hz
  · exact okO_pas hB h
/-- the network n holds the row a -/
def clN (n : Nat) (a : Nat → Nat) (M : am_M) : Prop := ∃ ar, nw n a M ar
def clI (sr kp i : Nat) : Nat := (sr + 9 - kp + i) % 9
/-- the networks kept, the oldest first -/
def clH (hs : List (Nat → Nat)) (M : am_M) : Prop := ∃ sr, sr < 9 ∧ M (4, 0, 0) 1 = nI sr ∧ M (4, 0, 0) 2 = nI hs.length ∧ hs.length ≤ 8 ∧ ∀ i h, hs[i]? = some h → clN (3 + clI sr hs.length i) h M
def clV (sv : Option (Nat → Nat)) (M : am_M) : Prop := M (3, 0, 0) 3 = nI sv.isSome.toNat ∧ ∀ b, sv = some b → clN 2 b M
def clR (R : Int32 × Int32 × Int32) (M : am_M) : Prop := M (6, 0, 0) 0 = R.1 ∧ M (6, 0, 0) 1 = R.2.1 ∧ M (6, 0, 0) 2 = R.2.2
/-- the text, the fault's place, the line -/
def clT (tx : List Int32) (e : Int32) (ln : List Int32) (M : am_M) : Prop := (M (8, 0, 0) 1 = nI tx.length ∧ ∀ i c, tx[i]? = some c → M (9, 0, 0) i = c) ∧ M (3, 0, 0) 8 = e ∧ M (3, 0, 0) 10 = nI ln.length ∧ ∀ i c, ln[i]? = some c → M (12, 0, 0) i = c
def clS (a : Nat → Nat) (hs : List (Nat → Nat)) (sv : Option (Nat → Nat)) (tx : List Int32) (R : Int32 × Int32 × Int32) (e : Int32) (ln : List Int32) (M : am_M) : Prop := clN 0 a M ∧ clH hs M ∧ clV sv M ∧ clT tx e ln M ∧ clR R M
def clF (M M' : am_M) : Prop := ∀ (l : am_L) (j : Nat), (l.1 < 3 ∨ 25 < l.1) → M' l j = M l j
theorem clF.rf (M : am_M) : clF M M := fun _ _ _ => rfl
theorem clF.tr {M M' M'' : am_M} (h : clF M M') (h' : clF M' M'') : clF M M'' := fun l j hl => (h' l j hl).trans (h l j hl)
theorem clF.set {M M' : am_M} {t n k j : Nat} {x : Int32} (h : clF M M') (ht : 3 ≤ t ∧ t ≤ 25) : clF M (am_set M' (t, n, k) j x) := fun l j' hl => by
  rw [as_ne (fun q => by obtain ⟨rfl, _⟩ := q; dsimp only at hl; omega)]
  exact h l j' hl
theorem cF.clF {n : Nat} {M M' : am_M} (h : cF n M M') : clF M M' := fun l j hl => h l j (by omega) (fun q => by obtain ⟨rfl, _⟩ := q; dsimp only at hl; omega)
theorem nw_fo.clF {n : Nat} {M M' : am_M} (h : nw_fo n M M') : clF M M' := fun l j hl => h l j (by omega)
theorem clN.mem {n : Nat} {a : Nat → Nat} {M M' : am_M} (h : clN n a M) (hf : ∀ (t k j : Nat), 13 ≤ t → t ≤ 25 → M' (t, n, k) j = M (t, n, k) j) : clN n a M' := ⟨h.choose, h.choose_spec.mem (fun t k j h1 h2 _ _ => hf t k j h1 h2)⟩
theorem clN.cF {n n' : Nat} {a : Nat → Nat} {M M' : am_M} (h : clN n a M) (hF : cF n' M M') (hne : n ≠ n') : clN n a M' := h.mem (fun t k j h1 h2 => hF _ _ (Or.inl hne) (fun q => by have := (pl_e q.1).1; omega))
theorem nI_nm1 {v : Nat} (h : v < 2147483648) : ¬ nI v = (-1 : Int32) := fun q => by
  have := congrArg Int32.toInt q
  rw [nI_toInt h, show (-1 : Int32).toInt = -1 from rfl] at this
  omega
theorem clI_ne {sr kp i : Nat} (hs : sr < 9) (hk : kp ≤ 8) (hi : i < kp) : clI sr kp i ≠ sr := by
  unfold clI
  omega
theorem clI_lt {sr kp i : Nat} : clI sr kp i < 9 := Nat.mod_lt _ (by decide)
section Kc6
variable {d B : Nat} {M M' M0 : am_M} {a b : Nat → Nat} {w : am_W4} {hs : List (Nat → Nat)} {sv : Option (Nat → Nat)} {tx ln : List Int32} {R : Int32 × Int32 × Int32} {e : Int32} {o : Out}
/-- what a command of its own makes of the state -/
def cmO (a : Nat → Nat) (hs : List (Nat → Nat)) (sv : Option (Nat → Nat)) (tx : List Int32) (R : Int32 × Int32 × Int32) (e : Int32) (ln : List Int32) (M : am_M) (w : am_W4) (r : Option am_R) : Out → Prop
  | .inl (v, a') => ∃ M', r = some (.inl (some (am_I (nI v))), M', am_Z w) ∧ clS a' (hpush hs a) sv tx R e ln M' ∧ clF M M'
  | .inr (q, x) => ∃ M', r = some (.inr 0, M', am_Z (am_bw w)) ∧ clS a hs sv tx (nI q, x, nI 0) e ln M' ∧ clF M M'
theorem k22 {sr : Nat} (hs : sr < 9) (h : M (4, 0, 0) 1 = nI sr) : am_ev (d + 1) 22 [am_P (4, 0, 0)] M (am_Z w) = some (.inl (some (am_P (13, 3 + sr, 0))), M, am_Z w) := by
  rw [e22, h, if_pos (by rw [am_inT (by omega) hs]; trivial), nI_clamp (by omega), Nat.add_comm]
theorem k23 {sr kp : Nat} (hs : sr < 9) (hk : kp ≤ 8) (h1 : M (4, 0, 0) 1 = nI sr) (h2 : M (4, 0, 0) 2 = nI kp) : ∃ M', am_ev (d + 1) 23 [am_P (4, 0, 0)] M (am_Z w) = some (.inl none, M', am_Z w) ∧ M' (4, 0, 0) 1 = nI ((sr + 1) % 9) ∧ M' (4, 0, 0) 2 = nI ((if kp = 8 then 7 else kp) + 1) ∧ ∀ l j, l ≠ (4, 0, 0) → M' l j = M l j := by
  rw [e23, h1, nI_add, pk_rem (by omega) (by decide) (by decide), b23_13, as_j (by decide), h2]
  by_cases h8 : kp = 8
  · rw [if_neg (nI_nlt (by omega) (by omega)), if_pos h8]
    exact ⟨_, rfl, as_eq _ _ _ _, by rw [as_j (by decide), h2, h8], fun l j hl => as_ne (fun q => hl q.1)⟩
  · rw [if_pos (nI_lt (by omega) (by omega)), if_neg h8]
    exact ⟨_, rfl, by rw [as_j (by decide), as_eq], by rw [as_eq, nI_add], fun l j hl => by rw [as_ne (fun q => hl q.1), as_ne (fun q => hl q.1)]⟩
/-- a network more is kept -/
theorem clH.push {sr : Nat} (hsr : sr < 9) (h : hs.length ≤ 8) (h1 : M' (4, 0, 0) 1 = nI ((sr + 1) % 9)) (h2 : M' (4, 0, 0) 2 = nI ((if hs.length = 8 then 7 else hs.length) + 1)) (hN : ∀ i h, hs[i]? = some h → clN (3 + clI sr hs.length i) h M') (ha : clN (3 + sr) a M') : clH (hpush hs a) M' := by
  have hl := hpush_len (b := a) h
  refine ⟨(sr + 1) % 9, Nat.mod_lt _ (by decide), h1, by rw [h2, hl], ?_, fun i g hi => ?_⟩
  · rw [hl]; split <;> omega
  · rw [hl]
    unfold hpush at hi
    by_cases h8 : hs.length = 8
    · rw [if_pos h8] at hi ⊢
      have hd : (hs.drop 1).length = 7 := by rw [List.length_drop, h8]
      rcases Nat.lt_or_ge i 7 with hi7 | hi7
      · rw [List.getElem?_append_left (by omega), List.getElem?_drop] at hi
        have := hN (1 + i) g hi
        rw [h8] at this
        unfold clI at this ⊢
        rw [show ((sr + 1) % 9 + 9 - (7 + 1) + i) % 9 = (sr + 9 - 8 + (1 + i)) % 9 by omega]
        exact this
      · rw [List.getElem?_append_right (by omega), hd] at hi
        have hi2 : i - 7 = 0 := by
          rcases Nat.eq_zero_or_pos (i - 7) with z | z
          · exact z
          · rw [List.getElem?_eq_none (by rw [List.length_singleton]; omega)] at hi
            exact absurd hi (by simp)
        rw [hi2] at hi
        have : a = g := Option.some.inj hi
        subst this
        unfold clI
        rw [show ((sr + 1) % 9 + 9 - (7 + 1) + i) % 9 = sr by omega]
        exact ha
    · rw [if_neg h8] at hi ⊢
      rcases Nat.lt_or_ge i hs.length with hi7 | hi7
      · rw [List.getElem?_append_left hi7] at hi
        have := hN i g hi
        unfold clI at this ⊢
        rw [show ((sr + 1) % 9 + 9 - (hs.length + 1) + i) % 9 = (sr + 9 - hs.length + i) % 9 by omega]
        exact this
      · rw [List.getElem?_append_right hi7] at hi
        have hi2 : i - hs.length = 0 := by
          rcases Nat.eq_zero_or_pos (i - hs.length) with z | z
          · exact z
          · rw [List.getElem?_eq_none (by rw [List.length_singleton]; omega)] at hi
            exact absurd hi (by simp)
        rw [hi2] at hi
        have : a = g := Option.some.inj hi
        subst this
        unfold clI
        rw [show ((sr + 1) % 9 + 9 - (hs.length + 1) + i) % 9 = sr by omega]
        exact ha
theorem clT.fr (h : clT tx e ln M) (h8 : M' (8, 0, 0) 1 = M (8, 0, 0) 1) (h9 : ∀ j, M' (9, 0, 0) j = M (9, 0, 0) j) (h3 : ∀ j, j = 8 ∨ j = 10 → M' (3, 0, 0) j = M (3, 0, 0) j) (h12 : ∀ j, M' (12, 0, 0) j = M (12, 0, 0) j) : clT tx e ln M' := ⟨⟨h8.trans h.1.1, fun i c hc => (h9 i).trans (h.1.2 i c hc)⟩, (h3 8 (by omega)).trans h.2.1, (h3 10 (by omega)).trans h.2.2.1, fun i c hc => (h12 i).trans (h.2.2.2 i c hc)⟩
theorem k74 {k : Nat} {x y z : Int32} (hB0 : 1000 ≤ B) (hB : B < 1070000000) (hok : ml_ok B a) (h : clS a hs sv tx R e ln M) (hk : k ≤ 7) (h70 : M (7, 0, 0) 0 = nI k) (h71 : M (7, 0, 0) 1 = x) (h72 : M (7, 0, 0) 2 = y) (h73 : M (7, 0, 0) 3 = z) : cmO a hs sv tx R e ln M w (am_ev (d + 8) 74 [am_P (3, 0, 0)] M (am_Z w)) (oC a k x y z) := by
  obtain ⟨⟨ar, hA⟩, ⟨sr, s1, s2, s3, s4, s5⟩, hV, hT, hR⟩ := h
  obtain ⟨M1, t1, t2, t3⟩ := k34 (d := d + 5) (n := 3 + sr) (n2 := 0) (M := M) (w := w) (by omega) (by decide) (by omega) hok hA
  rw [e74, k22 s1 s2]
  simp only [am_cb_i, am_cb_e, Option.toList_some, Option.toList_none, List.cons_append, List.nil_append]
  rw [b74_7 (by omega), t1]
  simp only [am_cb_i, am_cb_e, Option.toList_some, Option.toList_none, List.cons_append, List.nil_append, b74_14]
  have hA1 : nw 0 a M1 ar := hA.mem (fun t k j _ _ _ _ => t3 _ _ (Or.inl (by show 0 ≠ 3 + sr; omega)))
  have lo : ∀ (l : am_L) (j : Nat), l.1 < 13 → M1 l j = M l j := fun l j hl => t3 l j (Or.inr (Or.inl hl))
  have ho := k39 (d := d) (w := w) ck7 (by decide) hB0 hB hok hA1 hk ((lo _ _ (by decide)).trans h70)
  rw [lo _ _ (by decide), lo _ _ (by decide), lo _ _ (by decide), h71, h72, h73] at ho
  have hv := okO_C (k := k) (x := x) (y := y) (z := z) hB0 hok hA.2.choose_spec.2.2.2
  generalize oC a k x y z = o at ho hv ⊢
  rcases o with ⟨v, a'⟩ | ⟨q, u⟩
  · obtain ⟨M2, ar', u1, u2, u3⟩ := ho
    rw [u1]
    simp only [am_cb_i, am_cb_e, Option.toList_some, Option.toList_none, List.cons_append, List.nil_append, b74_29]
    have lo2 : ∀ (l : am_L) (j : Nat), l.1 < 13 → M2 l j = M l j := fun l j hl => by rw [u3 l j (Or.inr (Or.inl hl)), lo l j hl]
    rw [if_neg (nI_nm1 hv.1)]
    obtain ⟨M3, v1, v2, v3, v4⟩ := k23 (d := d + 6) (w := w) (M := M2) s1 s4 ((lo2 _ _ (by decide)).trans s2) ((lo2 _ _ (by decide)).trans s3)
    rw [v1]
    simp only [am_cb_i, am_cb_e, Option.toList_some, Option.toList_none, List.cons_append, List.nil_append, b74_58]
    have hN : ∀ n b, n ≠ 0 → n ≠ 3 + sr → clN n b M → clN n b M3 := fun n b n0 n1 hb => ((hb.cF t3.cF n1).cF u3.cF n0).mem (fun t k j g1 g2 => v4 _ _ (pl_t (by omega)))
    have lo3 : ∀ (l : am_L) (j : Nat), l.1 < 13 → l ≠ (4, 0, 0) → M3 l j = M l j := fun l j hl h4 => by rw [v4 l j h4, lo2 l j hl]
    refine ⟨M3, rfl, ⟨⟨ar', u2.mem (fun t k j g1 g2 _ _ => v4 _ _ (pl_t (by omega)))⟩, clH.push s1 s4 v2 v3 (fun i g hi => ?_) ?_, ⟨(lo3 _ _ (by decide) (pl_t (by decide))).trans hV.1, fun b hb => hN 2 b (by decide) (by omega) (hV.2 b hb)⟩, hT.fr (lo3 _ _ (by decide) (pl_t (by decide))) (fun j => lo3 _ _ (by decide) (pl_t (by decide))) (fun j _ => lo3 _ _ (by decide) (pl_t (by decide))) (fun j => lo3 _ _ (by decide) (pl_t (by decide))), ⟨(lo3 _ _ (by decide) (pl_t (by decide))).trans hR.1, (lo3 _ _ (by decide) (pl_t (by decide))).trans hR.2.1, (lo3 _ _ (by decide) (pl_t (by decide))).trans hR.2.2⟩⟩, (t3.clF.tr u3.clF).tr (fun l j hl => v4 l j (fun q => by subst q; dsimp only at hl; omega))⟩
    · have hlt := (List.getElem?_eq_some_iff.mp hi).1
      have := clI_ne s1 s4 hlt
      exact hN _ g (by omega) (by omega) (s5 i g hi)
    · have ha : clN (3 + sr) a M1 := ⟨ar, t2⟩
      exact (ha.cF u3.cF (by omega)).mem (fun t k j g1 g2 => v4 _ _ (pl_t (by omega)))
  · obtain ⟨M2, u1, u2, u3, u4, u5⟩ := ho
    rw [u1]
    simp only [am_cb_i, am_cb_e, Option.toList_some, Option.toList_none, List.cons_append, List.nil_append, b74_29]
    rw [if_pos trivial]
    have lo2 : ∀ (l : am_L) (j : Nat), l.1 < 13 → ¬ (l = (6, 0, 0)) → am_set M2 (6, 0, 0) 2 (nI 0) l j = M l j := fun l j hl h6 => by rw [as_ne (fun q => h6 q.1), u5 l j (Or.inr (Or.inl hl)) (fun q => h6 q.1), lo l j hl]
    have hN : ∀ n b, n ≠ 0 → n ≠ 3 + sr → clN n b M → clN n b (am_set M2 (6, 0, 0) 2 (nI 0)) := fun n b n0 n1 hb => ((hb.cF t3.cF n1).cF u5 n0).mem (fun t k j g1 g2 => as_t (by omega))
    refine ⟨_, rfl, ⟨⟨ar, u2.mem (fun t k j g1 g2 _ _ => as_t (by omega))⟩, ⟨sr, s1, (lo2 _ _ (by decide) (pl_t (by decide))).trans s2, (lo2 _ _ (by decide) (pl_t (by decide))).trans s3, s4, fun i g hi => ?_⟩, ⟨(lo2 _ _ (by decide) (pl_t (by decide))).trans hV.1, fun b hb => hN 2 b (by decide) (by omega) (hV.2 b hb)⟩, hT.fr (lo2 _ _ (by decide) (pl_t (by decide))) (fun j => lo2 _ _ (by decide) (pl_t (by decide))) (fun j _ => lo2 _ _ (by decide) (pl_t (by decide))) (fun j => lo2 _ _ (by decide) (pl_t (by decide))), ⟨(as_j (by decide)).trans u3, (as_j (by decide)).trans u4, as_eq _ _ _ _⟩⟩, (t3.clF.tr u5.clF).set (by decide)⟩
    have hlt := (List.getElem?_eq_some_iff.mp hi).1
    have := clI_ne s1 s4 hlt
    exact hN _ g (by omega) (by omega) (s5 i g hi)
theorem cmO.ret {r : Option am_R} {K : Option am_V → am_M → am_X → Option am_R} (h : cmO a hs sv tx R e ln M w r o) (hK : ∀ s M', K (some (am_I s)) M' (am_Z w) = some (.inl (some (am_I s)), M', am_Z w)) : cmO a hs sv tx R e ln M w (am_cb r K) o := by
  rcases o with ⟨v, a'⟩ | ⟨q, x⟩
  · obtain ⟨M', rfl, h2⟩ := h
    exact ⟨M', by rw [am_cb_i, hK], h2⟩
  · obtain ⟨M', rfl, h2⟩ := h
    exact ⟨M', rfl, h2⟩
theorem cmO.pre {r : Option am_R} (h : cmO a hs sv tx R e ln M w r o) (hF : clF M0 M) : cmO a hs sv tx R e ln M0 w r o := by
  rcases o with ⟨v, a'⟩ | ⟨q, x⟩
  · obtain ⟨M', h1, h2, h3⟩ := h
    exact ⟨M', h1, h2, hF.tr h3⟩
  · obtain ⟨M', h1, h2, h3⟩ := h
    exact ⟨M', h1, h2, hF.tr h3⟩
/-- a write that the state does not speak of -/
theorem clS.out {l : am_L} {i : Nat} {v : Int32} (h : clS a hs sv tx R e ln M) (hl : l = (7, 0, 0) ∨ l = (10, 0, 0) ∨ l.1 = 11 ∨ (l = (8, 0, 0) ∧ i ≠ 1) ∨ l = (5, 0, 0)) : clS a hs sv tx R e ln (am_set M l i v) := by
  have hne : ∀ (t k m : Nat), t ≠ 5 → t ≠ 7 → t ≠ 8 → t ≠ 10 → t ≠ 11 → ((t, k, m) : am_L) ≠ l := fun t k m h5 h7 h8 h10 h11 q => by
    subst q
    rcases hl with z | z | z | ⟨z, _⟩ | z
    · exact h7 (pl_e z).1
    · exact h10 (pl_e z).1
    · exact h11 z
    · exact h8 (pl_e z).1
    · exact h5 (pl_e z).1
  have hs' : ∀ (t k m j : Nat), t ≠ 5 → t ≠ 7 → t ≠ 8 → t ≠ 10 → t ≠ 11 → am_set M l i v (t, k, m) j = M (t, k, m) j := fun t k m j h5 h7 h8 h10 h11 => as_ne (fun q => hne t k m h5 h7 h8 h10 h11 q.1)
  obtain ⟨hA, ⟨sr, s1, s2, s3, s4, s5⟩, hV, hT, hR⟩ := h
  have hN : ∀ n b, clN n b M → clN n b (am_set M l i v) := fun n b hb => hb.mem (fun t k j g1 g2 => hs' t n k j (by omega) (by omega) (by omega) (by omega) (by omega))
  refine ⟨hN 0 a hA, ⟨sr, s1, (hs' 4 0 0 1 (by decide) (by decide) (by decide) (by decide) (by decide)).trans s2, (hs' 4 0 0 2 (by decide) (by decide) (by decide) (by decide) (by decide)).trans s3, s4, fun i g hi => hN _ g (s5 i g hi)⟩, ⟨(hs' 3 0 0 3 (by decide) (by decide) (by decide) (by decide) (by decide)).trans hV.1, fun b hb => hN 2 b (hV.2 b hb)⟩, hT.fr ?_ (fun j => hs' 9 0 0 j (by decide) (by decide) (by decide) (by decide) (by decide)) (fun j _ => hs' 3 0 0 j (by decide) (by decide) (by decide) (by decide) (by decide)) (fun j => hs' 12 0 0 j (by decide) (by decide) (by decide) (by decide) (by decide)), ⟨(hs' 6 0 0 0 (by decide) (by decide) (by decide) (by decide) (by decide)).trans hR.1, (hs' 6 0 0 1 (by decide) (by decide) (by decide) (by decide) (by decide)).trans hR.2.1, (hs' 6 0 0 2 (by decide) (by decide) (by decide) (by decide) (by decide)).trans hR.2.2⟩⟩
  refine as_ne (fun q => ?_)
  obtain ⟨rfl, rfl⟩ := q
  rcases hl with z | z | z | ⟨_, z⟩ | z
  · exact pl_t (by decide) z
  · exact pl_t (by decide) z
  · exact absurd z (by decide)
  · exact z rfl
  · exact pl_t (by decide) z
theorem clS.cmd {x0 x1 x2 x3 : Int32} (h : clS a hs sv tx R e ln M) : clS a hs sv tx R e ln (am_set (am_set (am_set (am_set M (7, 0, 0) 0 x0) (7, 0, 0) 1 x1) (7, 0, 0) 2 x2) (7, 0, 0) 3 x3) := (((h.out (Or.inl rfl)).out (Or.inl rfl)).out (Or.inl rfl)).out (Or.inl rfl)
theorem k66 {x y z : Int32} (hB0 : 1000 ≤ B) (hB : B < 1070000000) (hok : ml_ok B a) (h : clS a hs sv tx R e ln M) : cmO a hs sv tx R e ln M w (am_ev (d + 9) 66 [am_P (3, 0, 0), am_I x, am_I y, am_I z] M (am_Z w)) (oC a 0 x y z) := by
  rw [e66, e1 ck7]
  simp only [am_cb_i, am_cb_e, Option.toList_some, Option.toList_none, List.cons_append, List.nil_append, b66_11]
  exact (cmO.pre (k74 (d := d) (w := w) hB0 hB hok h.cmd (by decide) (by simp [am_set]) (by simp [am_set]) (by simp [am_set]) (by simp [am_set])) (((((clF.rf M).set (by decide)).set (by decide)).set (by decide)).set (by decide))).ret (fun s M' => b66_15)
theorem k67 {x y : Int32} (hB0 : 1000 ≤ B) (hB : B < 1070000000) (hok : ml_ok B a) (h : clS a hs sv tx R e ln M) : cmO a hs sv tx R e ln M w (am_ev (d + 9) 67 [am_P (3, 0, 0), am_I x, am_I y] M (am_Z w)) (oC a 1 x y (nI 0)) := by
  rw [e67, e1 ck7]
  simp only [am_cb_i, am_cb_e, Option.toList_some, Option.toList_none, List.cons_append, List.nil_append, b67_11]
  exact (cmO.pre (k74 (d := d) (w := w) hB0 hB hok h.cmd (by decide) (by simp [am_set]) (by simp [am_set]) (by simp [am_set]) (by simp [am_set])) (((((clF.rf M).set (by decide)).set (by decide)).set (by decide)).set (by decide))).ret (fun s M' => b67_15)
theorem k68 {x y z : Int32} (hB0 : 1000 ≤ B) (hB : B < 1070000000) (hok : ml_ok B a) (h : clS a hs sv tx R e ln M) : cmO a hs sv tx R e ln M w (am_ev (d + 9) 68 [am_P (3, 0, 0), am_I x, am_I y, am_I z] M (am_Z w)) (oC a 2 x y z) := by
  rw [e68, e1 ck7]
  simp only [am_cb_i, am_cb_e, Option.toList_some, Option.toList_none, List.cons_append, List.nil_append, b68_11]
  exact (cmO.pre (k74 (d := d) (w := w) hB0 hB hok h.cmd (by decide) (by simp [am_set]) (by simp [am_set]) (by simp [am_set]) (by simp [am_set])) (((((clF.rf M).set (by decide)).set (by decide)).set (by decide)).set (by decide))).ret (fun s M' => b68_15)
theorem k69 {x y : Int32} (hB0 : 1000 ≤ B) (hB : B < 1070000000) (hok : ml_ok B a) (h : clS a hs sv tx R e ln M) : cmO a hs sv tx R e ln M w (am_ev (d + 9) 69 [am_P (3, 0, 0), am_I x, am_I y] M (am_Z w)) (oC a 3 x y (nI 0)) := by
  rw [e69, e1 ck7]
  simp only [am_cb_i, am_cb_e, Option.toList_some, Option.toList_none, List.cons_append, List.nil_append, b69_11]
  exact (cmO.pre (k74 (d := d) (w := w) hB0 hB hok h.cmd (by decide) (by simp [am_set]) (by simp [am_set]) (by simp [am_set]) (by simp [am_set])) (((((clF.rf M).set (by decide)).set (by decide)).set (by decide)).set (by decide))).ret (fun s M' => b69_15)
theorem k70 {x y : Int32} (hB0 : 1000 ≤ B) (hB : B < 1070000000) (hok : ml_ok B a) (h : clS a hs sv tx R e ln M) : cmO a hs sv tx R e ln M w (am_ev (d + 9) 70 [am_P (3, 0, 0), am_I x, am_I y] M (am_Z w)) (oC a 4 x y (nI 0)) := by
  rw [e70, e1 ck7]
  simp only [am_cb_i, am_cb_e, Option.toList_some, Option.toList_none, List.cons_append, List.nil_append, b70_11]
  exact (cmO.pre (k74 (d := d) (w := w) hB0 hB hok h.cmd (by decide) (by simp [am_set]) (by simp [am_set]) (by simp [am_set]) (by simp [am_set])) (((((clF.rf M).set (by decide)).set (by decide)).set (by decide)).set (by decide))).ret (fun s M' => b70_15)
theorem k71 {x y z : Int32} (hB0 : 1000 ≤ B) (hB : B < 1070000000) (hok : ml_ok B a) (h : clS a hs sv tx R e ln M) : cmO a hs sv tx R e ln M w (am_ev (d + 9) 71 [am_P (3, 0, 0), am_I x, am_I y, am_I z] M (am_Z w)) (oC a 5 x y z) := by
  rw [e71, e1 ck7]
  simp only [am_cb_i, am_cb_e, Option.toList_some, Option.toList_none, List.cons_append, List.nil_append, b71_11]
  exact (cmO.pre (k74 (d := d) (w := w) hB0 hB hok h.cmd (by decide) (by simp [am_set]) (by simp [am_set]) (by simp [am_set]) (by simp [am_set])) (((((clF.rf M).set (by decide)).set (by decide)).set (by decide)).set (by decide))).ret (fun s M' => b71_15)
theorem k72 {x : Int32} (hB0 : 1000 ≤ B) (hB : B < 1070000000) (hok : ml_ok B a) (h : clS a hs sv tx R e ln M) : cmO a hs sv tx R e ln M w (am_ev (d + 9) 72 [am_P (3, 0, 0), am_I x] M (am_Z w)) (oC a 6 x (nI 0) (nI 0)) := by
  rw [e72, e1 ck7]
  simp only [am_cb_i, am_cb_e, Option.toList_some, Option.toList_none, List.cons_append, List.nil_append, b72_12]
  exact (cmO.pre (k74 (d := d) (w := w) hB0 hB hok h.cmd (by decide) (by simp [am_set]) (by simp [am_set]) (by simp [am_set]) (by simp [am_set])) (((((clF.rf M).set (by decide)).set (by decide)).set (by decide)).set (by decide))).ret (fun s M' => b72_16)
theorem k73 {x : Int32} (hB0 : 1000 ≤ B) (hB : B < 1070000000) (hok : ml_ok B a) (h : clS a hs sv tx R e ln M) : cmO a hs sv tx R e ln M w (am_ev (d + 9) 73 [am_P (3, 0, 0), am_I x] M (am_Z w)) (oC a 7 x (nI 0) (nI 0)) := by
  rw [e73, e1 ck7]
  simp only [am_cb_i, am_cb_e, Option.toList_some, Option.toList_none, List.cons_append, List.nil_append, b73_12]
  exact (cmO.pre (k74 (d := d) (w := w) hB0 hB hok h.cmd (by decide) (by simp [am_set]) (by simp [am_set]) (by simp [am_set]) (by simp [am_set])) (((((clF.rf M).set (by decide)).set (by decide)).set (by decide)).set (by decide))).ret (fun s M' => b73_16)
end Kc6
