/-! THE CLASS'S HOUR, its end -/
/-- the network n is what the row a says, with the arrivals ar -/
def nw (n : Nat) (a : Nat → Nat) (M : am_M) (ar : List Nat) : Prop := nw1 n a M ∧ ∃ q, nwQ n M q (a 1) ∧ nwR n M ar ∧ nw_l a q ar ∧ ∀ m, m < a 2 → a (60 + 19 * m + 10) = 0
def ml_gz (c : Nat) (a : Nat → Nat) : Prop := ∀ m, m < a 2 → a (60 + 19 * m + 10) = 1 → a (60 + 19 * m + 2) < c ∧ a (60 + 19 * m + 6) = 0 ∧ a (60 + 19 * m + 4) = 0 ∧ a (60 + 19 * m + 5) = 0 ∧ a (60 + 19 * m + 9) = 1
/-- numbers that ringing leaves alone -/
def ml_sb (j : Nat) : Prop := j < 12 ∨ (48 ≤ j ∧ j < 60) ∨ ∃ q f, q < 16 ∧ (f = 0 ∨ f = 1 ∨ f = 2 ∨ f = 3 ∨ f = 6 ∨ f = 7 ∨ f = 8) ∧ j = 60 + 19 * q + f
theorem ml_s1_sb {B c j : Nat} {s : (Nat → Nat) × Nat} (h : ml_ok B s.1) (hj : ml_sb j) : (ml_s1 s c).1 j = s.1 j := by
  unfold ml_s1
  split
  · rfl
  · split
    · rfl
    · rename_i m hm
      obtain ⟨u1, u2, u3⟩ := ml_wt_some hm
      have b2 := h.1.2.1
      obtain ⟨w0, w1, w2, w3, w4, w5, w6, w7, w8, w9, w10, w11, w12⟩ := h.2 m u1
      have hnx : ml_next s.1 m < 6 := Nat.lt_of_lt_of_le (ml_next_lt w1 w2) h.1.1
      have b1 := h.1.1
      refine ml_rings_ne ?_
      unfold ml_sz
      rcases hj with hj | hj | ⟨q, f, hq, hf, rfl⟩ <;> omega
theorem ml_f1_sb {B j : Nat} {a : Nat → Nat} (hB : 1000 ≤ B) (h : ml_ok B a) (hj : ml_sb j) : ∀ n, (fo ml_s1 (a, 0) n).1 j = a j
  | 0 => rfl
  | n + 1 => by
    rw [← ml_f1_sb hB h hj n]
    exact ml_s1_sb (ml_f1_ok hB h n).1 hj
theorem ml_s1_gz {B c : Nat} {s : (Nat → Nat) × Nat} (h : ml_ok B s.1) (hg : ml_gz c s.1) : ml_gz (c + 1) (ml_s1 s c).1 := by
  have hs : ml_gz (c + 1) s.1 := fun m hm h1 => ⟨Nat.lt_succ_of_lt (hg m hm h1).1, (hg m hm h1).2⟩
  unfold ml_s1
  split
  · exact hs
  · split
    · exact hs
    · rename_i m hm
      obtain ⟨u1, u2, u3⟩ := ml_wt_some hm
      have b2 := h.1.2.1
      have b1 := h.1.1
      obtain ⟨w0, w1, w2, w3, w4, w5, w6, w7, w8, w9, w10, w11, w12⟩ := h.2 m u1
      have hnx : ml_next s.1 m < 6 := Nat.lt_of_lt_of_le (ml_next_lt w1 w2) h.1.1
      have hC := ml_rings_C (fst := decide (s.2 / 2 ^ ml_next s.1 m % 2 = 0)) h.1 h.2 u1
      have hm1 : ¬ s.1 (60 + 19 * m + 10) = 1 := fun z => by have := (hg m u1 z).1; omega
      intro p hp hp1
      dsimp only at hp hp1 ⊢
      rw [hC.2.1] at hp
      by_cases hpm : p = m
      · subst hpm
        rw [ml_rings_ne (j := 60 + 19 * p + 6) (by unfold ml_sz; omega), ml_rings_ne (j := 60 + 19 * p + 2) (by unfold ml_sz; omega)]
        refine ⟨by omega, u2, ?_⟩
        unfold ml_rings at hp1 ⊢
        split
        · rename_i hlt
          rw [if_pos hlt, ml_r1_ne (by omega) (by omega) (by omega)] at hp1
          exact absurd hp1 hm1
        · rename_i hlt
          rw [if_neg hlt] at hp1
          unfold ml_r4 at hp1 ⊢
          split
          · rename_i hl2
            rw [if_pos hl2, ml_r3_ne (by omega) (by omega) (by omega), ml_r2_ne (by omega) (by omega), ml_r1_ne (by omega) (by omega) (by omega)] at hp1
            exact absurd hp1 hm1
          · rw [nu_ne (by omega), nu_eq, nu_ne (by omega), nu_ne (by omega), nu_ne (by omega), nu_ne (by omega)]
            unfold ml_r3
            rw [nu_ne (by omega), nu_eq, nu_eq]
            exact ⟨rfl, rfl, rfl⟩
      · have f : ∀ f, f < 19 → ml_rings s.1 m (decide (s.2 / 2 ^ ml_next s.1 m % 2 = 0)) (60 + 19 * p + f) = s.1 (60 + 19 * p + f) := fun f hf => ml_rings_ne (by unfold ml_sz; omega)
        rw [f 10 (by omega)] at hp1
        rw [f 6 (by omega), f 4 (by omega), f 5 (by omega), f 9 (by omega), f 2 (by omega)]
        exact hs p hp hp1
theorem ml_f1_gz {B : Nat} {a : Nat → Nat} (hB : 1000 ≤ B) (h : ml_ok B a) (h0 : ∀ m, m < a 2 → a (60 + 19 * m + 10) = 0) : ∀ n, ml_gz n (fo ml_s1 (a, 0) n).1
  | 0 => fun m hm h1 => by
    have e : (fo ml_s1 (a, 0) 0).1 (60 + 19 * m + 10) = 0 := h0 m hm
    omega
  | n + 1 => ml_s1_gz (ml_f1_ok hB h n).1 (ml_f1_gz hB h h0 n)
/-- what the second half of an hour wants: who goes is the first where it waits -/
def mv_h (b : Nat → Nat) (q : Nat → List Nat) (G : List Nat) : Prop :=
  (∀ m, m < b 2 → b (60 + 19 * m + 4) < b (60 + 19 * m + 3) ∧ b (60 + 19 * m + 3) ≤ 8 ∧ (b (60 + 19 * m + 10) = 1 → m ∈ G)) ∧ (∀ m, m ∈ G → mv_ok b m ∧ (q (b (60 + 19 * m + 2)))[0]? = some m) ∧ l_inc (fun m => b (60 + 19 * m + 2)) G
theorem mv_h.mv {b : Nat → Nat} {q : Nat → List Nat} {m : Nat} {G : List Nat} (h : mv_h b q (m :: G)) : mv_h (ml_mv b m) (lq b m q) G := by
  obtain ⟨h1, h2, h3⟩ := h
  have hp := List.pairwise_cons.mp h3
  have lt : ∀ x, x ∈ G → b (60 + 19 * m + 2) < b (60 + 19 * x + 2) := fun x hx => hp.1 x hx
  have ne : ∀ x, x ∈ G → x ≠ m := fun x hx e => by
    have := lt x hx
    rw [e] at this
    omega
  have f : ∀ x g, x ≠ m → g < 19 → ml_mv b m (60 + 19 * x + g) = b (60 + 19 * x + g) := fun x g hx hg => ml_mv_ne (by omega) (by omega)
  refine ⟨fun x hx => ?_, fun x hx => ?_, ?_⟩
  · rw [ml_mv_ne (j := 2) (by omega) (by omega)] at hx
    obtain ⟨g1, g2, g3⟩ := h1 x hx
    refine ⟨by rw [ml_mv_ne (by omega) (by omega), ml_mv_ne (by omega) (by omega)]; exact g1, by rw [ml_mv_ne (by omega) (by omega)]; exact g2, fun e => ?_⟩
    by_cases hxm : x = m
    · subst hxm
      rw [ml_mv_10] at e
      omega
    · rw [f x 10 hxm (by omega)] at e
      rcases List.mem_cons.mp (g3 e) with z | z
      · exact absurd z hxm
      · exact z
  · have hxm := ne x hx
    obtain ⟨g1, g2⟩ := h2 x (List.mem_cons_of_mem _ hx)
    refine ⟨g1.mv hxm, ?_⟩
    rw [f x 2 hxm (by omega)]
    unfold lq
    rw [if_neg (by have := lt x hx; omega), List.getElem?_append_left (List.getElem?_eq_some_iff.mp g2).1]
    exact g2
  · exact l_inc.to (t := fun m => b (60 + 19 * m + 2)) hp.2 (fun x hx => f x 2 (ne x hx) (by omega))
section Kp4
variable {d n B : Nat} {M M0 : am_M} {a : Nat → Nat} {w : am_W4}
/-- the moves, convent by convent -/
theorem l49b (hn : n < 12) : ∀ (r c : Nat) (G2 : List Nat) (b : Nat → Nat) (M : am_M) (q : Nat → List Nat) (ar : List Nat) (x1 x2 : Int32) (x4 x5 x6 : Option am_V), c + r = b 1 → nwS b → nw1 n b M → nwQ n M q (b 1) → nwR n M ar → nw_l b q ar → mv_h b q G2 → (∀ m, m ∈ G2 → c ≤ b (60 + 19 * m + 2)) →
    ∃ (M' : am_M) (q' : Nat → List Nat) (ar' : List Nat) (x4' x5' x6' : Option am_V), am_rn (am_ev (d + 3)) 49 142 [some (am_P (13, n, 0)), some (am_I x1), some (am_I x2), some (am_I (nI c)), x4, x5, x6] [] M (am_Z w) = am_rn (am_ev (d + 3)) 49 142 [some (am_P (13, n, 0)), some (am_I x1), some (am_I x2), some (am_I (nI (b 1))), x4', x5', x6'] [] M' (am_Z w) ∧ nw1 n (G2.foldl ml_mv b) M' ∧ nwQ n M' q' (b 1) ∧ nwR n M' ar' ∧ nw_l (G2.foldl ml_mv b) q' ar' ∧ nw_fo n M M' ∧ ar'.length = ar.length + G2.countP (fun m => decide (ml_next b m = b (60 + 19 * m + 1))) := by
  intro r
  induction r with
  | zero =>
    intro c G2 b M q ar x1 x2 x4 x5 x6 hc hS h1 hQ hR hl hm hge
    obtain rfl : c = b 1 := by omega
    cases G2 with
    | nil => exact ⟨M, q, ar, x4, x5, x6, rfl, h1, hQ, hR, hl, nw_fo.rf n M, rfl⟩
    | cons x G2 =>
      have g1 := (hm.2.1 x List.mem_cons_self).1.2.2.2.1
      have g2 := hge x List.mem_cons_self
      omega
  | succ r ih =>
    intro c G2 b M q ar x1 x2 x4 x5 x6 hc hS h1 hQ hR hl hm hge
    have hcb : c < b 1 := by omega
    have s1 := hS.1
    have s2 := hS.2.1
    have hc6 : c < 6 := by omega
    obtain ⟨hQ1, hQ2⟩ := hQ c hcb
    have hql := (hl.1 c hcb).len
    have hF := h1.1
    rw [b49_142 hn, hF.cc, if_pos (nI_lt hcb (by omega)), if_pos (by rw [am_inT (by omega) hc6]; trivial), nI_clamp (by omega)]
    have key : (∃ x G2', G2 = x :: G2' ∧ b (60 + 19 * x + 2) = c) ∨ ∀ x, x ∈ G2 → c + 1 ≤ b (60 + 19 * x + 2) := by
      cases G2 with
      | nil => exact Or.inr (fun x h => absurd h List.not_mem_nil)
      | cons x G2' =>
        by_cases hx : b (60 + 19 * x + 2) = c
        · exact Or.inl ⟨x, G2', rfl, hx⟩
        · refine Or.inr (fun y hy => ?_)
          have h6 := hge x List.mem_cons_self
          rcases List.mem_cons.mp hy with rfl | hy
          · omega
          · have h5 := (List.pairwise_cons.mp hm.2.2).1 y hy
            dsimp only at h5
            omega
    rcases key with ⟨m, G2', rfl, hat⟩ | key
    · obtain ⟨hmm, hhd⟩ := hm.2.1 m List.mem_cons_self
      rw [hat] at hhd
      have m2 := hmm.1
      have hm16 : m < 16 := by omega
      have m10 := hmm.2.2.1
      obtain ⟨g4, g3, -⟩ := hm.1 m m2
      rw [k228s hn hc6 hQ1 (by omega) hhd (hQ2 0 m hhd)]
      simp (disch := omega) only [am_cb_i, am_cb_e, Option.toList_some, Option.toList_none, List.cons_append, List.nil_append]
      rw [b49_159 hn, k37n hn hF s2 m2]
      simp (disch := omega) only [am_cb_i, am_cb_e, Option.toList_some, Option.toList_none, List.cons_append, List.nil_append]
      have hpl : nw_pl b m = b (60 + 19 * m + 3) := if_pos m10
      rw [b49_167 hn, if_neg (show ¬ nI 1 = 0 by decide), if_pos (by rw [am_inT (by omega) hm16]; trivial), nI_clamp (by omega), k29 hn hm16 (h1.2 m m2) (hF.mny m2) (by rw [hpl]; omega) (by omega), hpl, decide_eq_true (Nat.le_refl _)]
      simp (disch := omega) only [am_cb_i, am_cb_e, Option.toList_some, Option.toList_none, List.cons_append, List.nil_append]
      obtain ⟨M1, e1, g1, gQ, gR, gf⟩ := k51 (d := d + 1) (w := w) hn hS h1 hQ hR hl hmm
      rw [hat] at e1
      rw [b49_180 hn, if_neg (show ¬ nI true.toNat = 0 by decide), if_pos (by rw [am_inT (by omega) hm16]; trivial), nI_clamp (by omega), e1]
      simp (disch := omega) only [am_cb_i, am_cb_e, Option.toList_some, Option.toList_none, List.cons_append, List.nil_append]
      have c1 : ml_mv b m 1 = b 1 := ml_mv_ne (by omega) (by omega)
      have hS1 : nwS (ml_mv b m) := ⟨by rw [c1]; exact hS.1, by rw [ml_mv_ne (by omega) (by omega)]; exact hS.2.1, fun x hx => by rw [ml_mv_ne (by omega) (by omega)] at hx; rw [ml_mv_ne (by omega) (by omega)]; exact hS.2.2 x hx⟩
      have hmv := hm.mv
      have hp := List.pairwise_cons.mp hm.2.2
      have lt : ∀ x, x ∈ G2' → c < b (60 + 19 * x + 2) := fun x hx => by
        have := hp.1 x hx
        dsimp only at this
        omega
      have ne : ∀ x, x ∈ G2' → x ≠ m := fun x hx e => by
        have := lt x hx
        rw [e] at this
        omega
      obtain ⟨M', q', ar', y4, y5, y6, e2, t1, t2, t3, t4, t5, t6⟩ := ih (c + 1) G2' (ml_mv b m) M1 (lq b m q) (lr b m ar) x1 x2 (some (am_I (nI m))) x5 x6 (by rw [c1]; omega) hS1 g1 (by rw [c1]; exact gQ) gR (hl.mv hmm.1 hmm.2.1 (ml_next_ne hmm.2.2.2.2.2.1)) hmv (fun x hx => by
        rw [ml_mv_ne (by omega) (by have := ne x hx; omega)]
        exact lt x hx)
      refine ⟨M', q', ar', y4, y5, y6, ?_, t1, by rw [c1] at t2; exact t2, t3, t4, gf.tr t5, ?_⟩
      · rw [b49_197 hn, nI_add]
        rw [c1] at e2
        exact e2
      · rw [t6, List.countP_cons]
        have e7 : G2'.countP (fun x => decide (ml_next (ml_mv b m) x = ml_mv b m (60 + 19 * x + 1))) = G2'.countP (fun x => decide (ml_next b x = b (60 + 19 * x + 1))) := by
          refine List.countP_congr (fun x hx => ?_)
          have hxm : x ≠ m := ne x hx
          have f : ∀ f, f < 19 → ml_mv b m (60 + 19 * x + f) = b (60 + 19 * x + f) := fun f hf => ml_mv_ne (by omega) (by omega)
          unfold ml_next
          rw [f 1 (by omega), f 2 (by omega)]
        rw [e7]
        unfold lr
        by_cases hf : ml_next b m = b (60 + 19 * m + 1)
        · rw [if_pos hf, List.length_append, decide_eq_true hf]
          simp
          omega
        · rw [if_neg hf, decide_eq_false hf]
          simp
    · have go : ∃ y4 : Option am_V, am_cb (am_ev (d + 3) 228 [am_P (21, n, c)] M (am_Z w)) (fun v M' X' => am_rn (am_ev (d + 3)) 49 159 [some (am_P (13, n, 0)), some (am_I x1), some (am_I x2), some (am_I (nI c)), x4, x5, x6] (v.toList ++ []) M' X') = am_rn (am_ev (d + 3)) 49 197 [some (am_P (13, n, 0)), some (am_I x1), some (am_I x2), some (am_I (nI c)), y4, x5, x6] [] M (am_Z w) ∧ ∃ z, y4 = some (am_I z) := by
        by_cases hlen : 0 < (q c).length
        · obtain ⟨y, hy⟩ : ∃ y, (q c)[0]? = some y := ⟨(q c)[0], List.getElem?_eq_getElem hlen⟩
          obtain ⟨y2, y6, yat⟩ := ((hl.1 c hcb).2 y).mp (List.mem_of_getElem? hy)
          have hy16 : y < 16 := by omega
          obtain ⟨g4, g3, g10⟩ := hm.1 y y2
          have n10 : ¬ b (60 + 19 * y + 10) = 1 := fun e => by
            have := key y (g10 e)
            omega
          have hpl : nw_pl b y = b (60 + 19 * y + 4) := if_neg n10
          rw [k228s hn hc6 hQ1 (by omega) hy (hQ2 0 y hy)]
          simp (disch := omega) only [am_cb_i, am_cb_e, Option.toList_some, Option.toList_none, List.cons_append, List.nil_append]
          rw [b49_159 hn, k37n hn hF s2 y2]
          simp (disch := omega) only [am_cb_i, am_cb_e, Option.toList_some, Option.toList_none, List.cons_append, List.nil_append]
          rw [b49_167 hn, if_neg (show ¬ nI 1 = 0 by decide), if_pos (by rw [am_inT (by omega) hy16]; trivial), nI_clamp (by omega), k29 hn hy16 (h1.2 y y2) (hF.mny y2) (by rw [hpl]; omega) (by omega), hpl, decide_eq_false (by omega)]
          simp (disch := omega) only [am_cb_i, am_cb_e, Option.toList_some, Option.toList_none, List.cons_append, List.nil_append]
          rw [b49_180 hn, if_pos (show nI false.toNat = 0 from rfl)]
          exact ⟨_, rfl, _, rfl⟩
        · rw [k228n hn hc6 hQ1 (by omega)]
          simp (disch := omega) only [am_cb_i, am_cb_e, Option.toList_some, Option.toList_none, List.cons_append, List.nil_append]
          rw [b49_159 hn, k37m hn]
          simp (disch := omega) only [am_cb_i, am_cb_e, Option.toList_some, Option.toList_none, List.cons_append, List.nil_append]
          rw [b49_167 hn, if_pos (show nI 0 = 0 from rfl)]
          exact ⟨_, rfl, _, rfl⟩
      obtain ⟨y4, e1, z, rfl⟩ := go
      rw [e1]
      obtain ⟨M', q', ar', z4, z5, z6, e2, t1, t2, t3, t4, t5, t6⟩ := ih (c + 1) G2 b M q ar x1 x2 (some (am_I z)) x5 x6 (by omega) hS h1 hQ hR hl hm key
      exact ⟨M', q', ar', z4, z5, z6, by rw [b49_197 hn, nI_add]; exact e2, t1, t2, t3, t4, t5, t6⟩
theorem k112 {v r : Nat} (hv : v < 1000) (hr : r < 1000) : am_ev (d + 1) 112 [am_I (nI v), am_I (nI r)] M (am_Z w) = some (.inl (some (am_I (nI ((3 * v + r + 1) % 10)))), M, am_Z w) := by
  rw [e112]
  simp (disch := omega) only [nI_add, pk_mul, pk_rem]
theorem l53 {b : Nat → Nat} (hn : n < 12) (hB0 : 1000 ≤ B) (hok : ml_ok B b) : ∀ r k (M : am_M), k + r = 5 → nw1 n (fo ml_s4 b (min k (b 1 - 1))) M → ∃ M', am_rn (am_ev (d + 1)) 53 22 [some (am_P (13, n, 0)), some (am_I (nI k))] [] M (am_Z w) = some (.inl none, M', am_Z w) ∧ nw1 n (fo ml_s4 b (b 1 - 1)) M' ∧ nw_fr n M M' := by
  intro r
  have b1 := hok.1.1
  induction r with
  | zero =>
    intro k M hk h
    rw [b53_22 hn, if_neg (nI_nlt (by omega) (by omega))]
    rw [show min k (b 1 - 1) = b 1 - 1 by omega] at h
    exact ⟨M, rfl, h, nw_fr.rf n M⟩
  | succ r ih =>
    intro k M hk h
    obtain ⟨g1, g3, g4⟩ := ml_f4_ok hB0 hok (min k (b 1 - 1)) (by omega)
    rw [b53_22 hn, if_pos (nI_lt (by omega) (by omega)), if_pos (by rw [am_inT (by omega) (by omega)]; trivial), if_pos (by rw [am_inT (by omega) (by omega)]; trivial), nI_clamp (by omega)]
    by_cases hkb : k + 1 < b 1
    · rw [show min k (b 1 - 1) = k by omega] at h g1 g3 g4
      have hw7 := g1.1.2.2.2.2.2.2 (48 + 2 * k + 1) (by omega) (by omega)
      rw [h.1.rw (by rw [g3]; exact hkb), k112 (by omega) (by omega)]
      simp (disch := omega) only [am_cb_i, am_cb_e, Option.toList_some, Option.toList_none, List.cons_append, List.nil_append]
      rw [b53_46 hn (by omega), nI_add]
      have hC : nwC (fo ml_s4 b k) (nu (fo ml_s4 b k) (48 + 2 * k + 1) ((3 * fo ml_s4 b k (48 + 2 * k + 1) + k + 1) % 10)) := (nwC.rf _).nu (by omega) (by omega) (by intros; omega) g1.1.2.1
      have F := nwF.set (t := 23) (k := k) (j := 1) (v := (3 * fo ml_s4 b k (48 + 2 * k + 1) + k + 1) % 10) g1.S (nwC.rf _) h.1 ⟨by rw [g3]; exact hkb, by decide⟩ hC
      have e1 : fo ml_s4 b (min (k + 1) (b 1 - 1)) = nu (fo ml_s4 b k) (48 + 2 * k + 1) ((3 * fo ml_s4 b k (48 + 2 * k + 1) + k + 1) % 10) := by
        rw [show min (k + 1) (b 1 - 1) = k + 1 by omega]; rfl
      obtain ⟨M', e2, t1, t2⟩ := ih (k + 1) _ (by omega) (by
        rw [e1]
        refine ⟨F, fun m hm => ?_⟩
        rw [hC.2.1] at hm
        rw [as_t (by decide), h.2 m hm]
        unfold nw_pl
        rw [nu_ne (by omega), nu_ne (by omega), nu_ne (by omega)])
      exact ⟨M', e2, t1, ((nw_fr.rf n M).set (by omega)).trans t2⟩
    · have e1 : min (k + 1) (b 1 - 1) = min k (b 1 - 1) := by omega
      obtain ⟨v, hv⟩ : ∃ v, am_ev (d + 1) 112 [am_I (M (23, n, k) 1), am_I (nI k)] M (am_Z w) = some (.inl (some (am_I v)), M, am_Z w) := ⟨_, e112⟩
      rw [hv]
      simp (disch := omega) only [am_cb_i, am_cb_e, Option.toList_some, Option.toList_none, List.cons_append, List.nil_append]
      rw [b53_46 hn (by omega), nI_add]
      obtain ⟨M', e2, t1, t2⟩ := ih (k + 1) (am_set M (23, n, k) 1 v) (by omega) (by
        rw [e1]
        refine ⟨h.1.out (fun t k' e hG => ?_), fun m hm => by rw [as_t (by decide)]; exact h.2 m hm⟩
        have e2 := (Prod.mk.inj (Prod.mk.inj e).2).2
        have e3 := (Prod.mk.inj e).1
        subst e3
        have := hG.1
        rw [g3] at this
        exact hkb (by omega))
      exact ⟨M', e2, t1, ((nw_fr.rf n M).set (by omega)).trans t2⟩
theorem k53 {b : Nat → Nat} (hn : n < 12) (hB0 : 1000 ≤ B) (hB : B < 1073000000) (hok : ml_ok B b) (h : nw1 n b M) : ∃ M', am_ev (d + 2) 53 [am_P (13, n, 0)] M (am_Z w) = some (.inl none, M', am_Z w) ∧ nw1 n (ml_g4 b) M' ∧ nw_fr n M M' := by
  have b0 := hok.1.2.2.1 0 (by omega)
  have b2 := hok.1.2.1
  have hC : nwC b (nu b 0 (b 0 + 1)) := (nwC.rf b).nu (by omega) (by omega) (by intros; omega) b2
  have hF : nw1 n (nu b 0 (b 0 + 1)) (am_set M (13, n, 0) 0 (nI (b 0 + 1))) := by
    refine ⟨nwF.set (t := 13) (k := 0) (j := 0) hok.S (nwC.rf b) h.1 ⟨rfl, Or.inl rfl⟩ hC, fun m hm => ?_⟩
    rw [hC.2.1] at hm
    rw [as_t (by decide), h.2 m hm]
    unfold nw_pl
    rw [nu_ne (by omega), nu_ne (by omega), nu_ne (by omega)]
  have fr : nw_fr n M (am_set M (13, n, 0) 0 (nI (b 0 + 1))) := (nw_fr.rf n M).set (by omega)
  rw [e53 hn, h.1.hour, nI_add, b53_10 hn, as_eq, pk_rem (by omega) (by decide) (by decide)]
  unfold ml_g4
  by_cases h6 : (b 0 + 1) % 6 = 0
  · rw [if_pos h6, if_pos (by rw [nI_z (by omega)]; exact h6)]
    obtain ⟨M', e, t1, t2⟩ := l53 (d := d) (w := w) hn (by omega) (ml_h_ok hB0 hok) 5 0 _ (by omega) (by
      rw [show min 0 (nu b 0 (b 0 + 1) 1 - 1) = 0 by omega]
      exact hF)
    rw [hC.1] at t1
    exact ⟨M', e, t1, fr.trans t2⟩
  · rw [if_neg h6, if_neg (by rw [nI_z (by omega)]; exact h6)]
    exact ⟨_, rfl, hF, fr⟩
set_option maxHeartbeats 4000000 in
/-- AN HOUR ON BOTH SIDES -/
theorem k49 {ar : List Nat} (hn : n < 12) (hB0 : 1000 ≤ B) (hB : B < 1071000000) (hok : ml_ok B a) (h : nw n a M ar) : ∃ M' ar', am_ev (d + 5) 49 [am_P (13, n, 0)] M (am_Z w) = some (.inl none, M', am_Z w) ∧ nw n (ml_goes a) M' ar' ∧ nw_fo n M M' ∧ ar'.length = ar.length + ml_arr a := by
  obtain ⟨h1, q, hQ, hR, hl, hg0⟩ := h
  obtain ⟨hq, hr, ht⟩ := hl
  have b1 := hok.1.1
  have b2 := hok.1.2.1
  have b0 := hok.1.2.2.1 0 (by omega)
  obtain ⟨u1, u3, u4⟩ := ml_g1_ok hB0 hok
  have lp0 : nw_lp n (B + 0) q ar M 0 (fo ml_s1 (a, 0) 0) M [] := ⟨h1, hQ, hR, fun x hx => absurd hx List.not_mem_nil, List.Pairwise.nil, fun m => ⟨fun z => absurd z List.not_mem_nil, fun z => by have := hg0 m z.1; have := z.2; dsimp only [fo] at this; omega⟩, fun m hm => ⟨by have := hg0 m hm; show a _ ≤ 1; omega, fun z => by have := hg0 m hm; have z : a _ = 1 := z; omega⟩, hq, Nat.succ_pos _, hok, nw_fo.rf n M⟩
  obtain ⟨M1, G, y4, y5, y6, e1, hlp⟩ := l49a (d := d) (w := w) hn hB0 hB hok lp0 (a 1) 0 M [] none none none (by omega) lp0
  rw [e49 hn, k38 hn h1.1 (by omega)]
  simp (disch := omega) only [am_cb_i, am_cb_e, Option.toList_some, Option.toList_none, List.cons_append, List.nil_append]
  rw [b49_6 hn]
  rw [show (fo ml_s1 (a, 0) 0).2 = 0 from rfl] at e1
  rw [e1]
  obtain ⟨p1, pQ, pR, pH, pG1, pG2, pG3, pq, pk, pok, pfo⟩ := hlp
  have gz := ml_f1_gz hB0 hok hg0 (a 1)
  have sb : ∀ j, ml_sb j → ml_g1 a j = a j := fun j hj => ml_f1_sb hB0 hok hj (a 1)
  rw [show (fo ml_s1 (a, 0) (a 1)).1 = ml_g1 a from rfl] at p1 pQ pH pG1 pG2 pG3 pq pok gz
  have sf : ∀ m f, m < 16 → (f = 0 ∨ f = 1 ∨ f = 2 ∨ f = 3 ∨ f = 6 ∨ f = 7 ∨ f = 8) → ml_g1 a (60 + 19 * m + f) = a (60 + 19 * m + f) := fun m f hm hf => sb _ (Or.inr (Or.inr ⟨m, f, hm, hf, rfl⟩))
  have hlb : nw_l (ml_g1 a) q ar := by
    refine ⟨pq, ⟨hr.1.to (fun x hx => sf x 8 (by have := ((hr.2 x).mp hx).1; omega) (by omega)), fun m => ?_⟩, fun m hm => ?_⟩
    · rw [hr.2 m, u4]
      exact ⟨fun z => ⟨z.1, by rw [sf m 6 (by have := z.1; omega) (by omega)]; exact z.2⟩, fun z => ⟨z.1, by have z2 := z.2; rw [sf m 6 (by have := z.1; omega) (by omega)] at z2; exact z2⟩⟩
    · rw [u4] at hm
      rw [sf m 8 (by omega) (by omega), sb 3 (Or.inl (by omega))]
      exact ht m hm
  have hmv : ∀ m ∈ G, mv_ok (ml_g1 a) m := fun m hm => by
    have hm2 := (pG2 m).mp hm
    obtain ⟨w0, w1, w2, w3, w4, w5, w6, w7, w8, w9, w10, w11, w12⟩ := u1.2 m hm2.1
    obtain ⟨z1, z2, z3, z4, z5⟩ := gz m hm2.1 hm2.2
    exact ⟨hm2.1, z2, hm2.2, w2, w1, w11 z2, z3, z4, z5⟩
  have hmh : mv_h (ml_g1 a) q G := ⟨fun m hm => by
    obtain ⟨w0, w1, w2, w3, w4, w5, w6, w7, w8, w9, w10, w11, w12⟩ := u1.2 m hm
    exact ⟨w5, w4, fun e => (pG2 m).mpr ⟨hm, e⟩⟩, fun m hm => ⟨hmv m hm, pH m hm⟩, pG1⟩
  obtain ⟨M2, q', ar', z4, z5, z6, e2, t1, t2, t3, t4, t5, t6⟩ := l49b (d := d + 1) (w := w) hn (a 1) 0 G (ml_g1 a) M1 q ar (nI (fo ml_s1 (a, 0) (a 1)).2) (nI (a 0 % 24)) y4 y5 y6 (by rw [u3]; omega) u1.S p1 pQ pR hlb hmh (fun m _ => Nat.zero_le _)
  obtain ⟨v1, v2⟩ := ml_g3_mv pG1 pG2 (fun m hm => ⟨(pG3 m hm).1, (u1.2 m hm).2.2.1⟩)
  obtain ⟨g1, g3, g4, g5⟩ := ml_g3_ok hB0 hok
  rw [← v1] at t1 t4
  obtain ⟨M3, e3, s1, s2⟩ := k53 (d := d + 2) (w := w) hn (by omega) (by omega) g1 t1
  rw [show d + 4 = d + 1 + 3 by omega, e2, b49_142 hn, t1.1.cc, g3, u3, if_neg (nI_nlt (by omega) (by omega))]
  rw [show d + 1 + 3 = d + 2 + 2 by omega, e3]
  simp (disch := omega) only [am_cb_i, am_cb_e, Option.toList_some, Option.toList_none, List.cons_append, List.nil_append]
  rw [b49_207 hn]
  -- the row behind the winds
  have g4ne : ∀ j, 60 ≤ j ∨ (0 < j ∧ j < 48) → ml_g4 (ml_g3 a).1 j = (ml_g3 a).1 j := by
    intro j hj
    unfold ml_g4
    have h4 : ∀ k, k < 6 → fo ml_s4 (nu (ml_g3 a).1 0 ((ml_g3 a).1 0 + 1)) k j = (ml_g3 a).1 j := by
      intro k
      induction k with
      | zero => intro _; exact nu_ne (by omega)
      | succ k ih =>
        intro hk
        rw [← ih (by omega)]
        exact nu_ne (by omega)
    split
    · exact h4 _ (by omega)
    · exact nu_ne (by omega)
  refine ⟨M3, ar', rfl, ⟨s1, q', ?_, t3.fr s2, ⟨fun c hc => ?_, ?_, fun m hm => ?_⟩, fun m hm => ?_⟩, (pfo.tr t5).tr s2.fo, ?_⟩
  · show nwQ n M3 q' (ml_g4 (ml_g3 a).1 1)
    rw [g4ne 1 (by omega), g3]
    rw [u3] at t2
    exact t2.fr s2
  · have hc : c < ml_g4 (ml_g3 a).1 1 := hc
    rw [g4ne 1 (by omega)] at hc
    exact (t4.1 c hc).to (g4ne 2 (by omega)) (fun m f _ _ => g4ne _ (by omega))
  · refine ⟨t4.2.1.1.to (fun x _ => g4ne _ (by omega)), fun m => ?_⟩
    show m ∈ ar' ↔ m < ml_g4 (ml_g3 a).1 2 ∧ ml_g4 (ml_g3 a).1 (60 + 19 * m + 6) = 1
    rw [g4ne _ (by omega), g4ne _ (by omega)]
    exact t4.2.1.2 m
  · have hm : m < ml_g4 (ml_g3 a).1 2 := hm
    rw [g4ne _ (by omega)] at hm
    show ml_g4 (ml_g3 a).1 _ < ml_g4 (ml_g3 a).1 _
    rw [g4ne _ (by omega), g4ne _ (by omega)]
    exact t4.2.2 m hm
  · have hm : m < ml_g4 (ml_g3 a).1 2 := hm
    rw [g4ne _ (by omega), g4] at hm
    show ml_g4 (ml_g3 a).1 _ = 0
    rw [g4ne _ (by omega), v1]
    have hms := ml_ms.fold (ml_ms.rf (ml_g1 a)) (G2 := G) (by simpa using pG1.nodup)
    rw [List.nil_append] at hms
    by_cases hmG : m ∈ G
    · obtain ⟨i, hi⟩ := List.getElem?_of_mem hmG
      exact (hms.2.1 i m hi).1
    · rw [hms.2.2 _ (by omega) (fun x hx => by
        have : m ≠ x := fun e => hmG (by rw [e]; exact hx)
        omega)]
      have h10 := (pG3 m (by rw [u4]; exact hm)).1
      rcases Nat.lt_or_ge (ml_g1 a (60 + 19 * m + 10)) 1 with z | z
      · omega
      · exact absurd ((pG2 m).mpr ⟨by rw [u4]; exact hm, by omega⟩) hmG
  · rw [t6, v2]
end Kp4
