/-! THE CLASS'S HOUR: every convent's turn -/
def nwQ (n : Nat) (M : am_M) (q : Nat → List Nat) (cc : Nat) : Prop := ∀ c, c < cc → M (21, n, c) 6 = nI (q c).length ∧ ∀ i x, (q c)[i]? = some x → M (22, n, c) i = nI x
def nwR (n : Nat) (M : am_M) (ar : List Nat) : Prop := M (13, n, 0) 7 = nI ar.length ∧ ∀ i x, ar[i]? = some x → M (18, n, 0) i = nI x
theorem nwQ.fr {n cc : Nat} {M M' : am_M} {q : Nat → List Nat} (h : nwQ n M q cc) (hf : nw_fr n M M') : nwQ n M' q cc := fun c hc => ⟨(hf _ _ (by simp)).trans (h c hc).1, fun i x hx => (hf _ _ (by simp)).trans ((h c hc).2 i x hx)⟩
theorem nwR.fr {n : Nat} {M M' : am_M} {ar : List Nat} (h : nwR n M ar) (hf : nw_fr n M M') : nwR n M' ar := ⟨(hf _ _ (by simp)).trans h.1, fun i x hx => (hf _ _ (by simp)).trans (h.2 i x hx)⟩
/-- what a method of the network n leaves alone -/
def nw_fo (n : Nat) (M M' : am_M) : Prop := ∀ (l : am_L) (j : Nat), (l.2.1 ≠ n ∨ l.1 < 13 ∨ 25 < l.1) → M' l j = M l j
theorem nw_fo.rf (n : Nat) (M : am_M) : nw_fo n M M := fun _ _ _ => rfl
theorem nw_fo.tr {n : Nat} {M M' M'' : am_M} (h : nw_fo n M M') (h' : nw_fo n M' M'') : nw_fo n M M'' := fun l j hl => (h' l j hl).trans (h l j hl)
theorem nw_fr.fo {n : Nat} {M M' : am_M} (h : nw_fr n M M') : nw_fo n M M' := fun l j hl => h l j (by omega)
theorem nw_fo.set {n t k j : Nat} {M M' : am_M} {x : Int32} (h : nw_fo n M M') (ht : 13 ≤ t ∧ t ≤ 25) : nw_fo n M (am_set M' (t, n, k) j x) := by
  intro l j' hl
  rw [as_ne (fun q => ?_)]
  · exact h l j' hl
  · obtain ⟨rfl, rfl⟩ := q
    dsimp only at hl
    omega
theorem ml_heard_a1 {a : Nat → Nat} {m c l : Nat} (hc : c < 6) (hl : l < 6) (hat : a (60 + 19 * m + 2) < 6) : ml_heard (ml_a1 a m) c l = ml_heard a c l := by
  have g : ∀ j, (∀ c, c < 6 → j ≠ 12 + 6 * c + 4) → ml_a1 a m j = a j := fun j hj => nu_ne (hj _ hat)
  have hr : (if l < c then l else c) < 6 := by split <;> omega
  unfold ml_heard ml_str
  generalize (if l < c then l else c) = r at *
  rw [g (12 + 6 * c + 0) (by intros; omega), g (12 + 6 * l + 1) (by intros; omega), g (48 + 2 * r) (by intros; omega), g (48 + 2 * r + 1) (by intros; omega)]
theorem l_inc.len {t : Nat → Nat} {l : List Nat} {c : Nat} (h : l_inc t l) (hx : ∀ x ∈ l, t x < c) : l.length ≤ c := by
  have h1 : (l.map t).Nodup := List.Pairwise.map t (fun _ _ h e => by omega) h
  have h2 := nc_len h1 (n := c) (fun y hy => by
    obtain ⟨x, hx1, rfl⟩ := List.mem_map.mp hy
    exact hx x hx1)
  rwa [List.length_map] at h2
theorem l_inc.snoc {t : Nat → Nat} {l : List Nat} {m : Nat} (h : l_inc t l) (hx : ∀ x ∈ l, t x < t m) : l_inc t (l ++ [m]) := by
  refine List.pairwise_append.mpr ⟨h, List.pairwise_singleton _ _, fun x hx1 y hy => ?_⟩
  rw [List.mem_singleton.mp hy]
  exact hx x hx1
theorem l_inc.to {t t' : Nat → Nat} {l : List Nat} (h : l_inc t l) (he : ∀ x ∈ l, t' x = t x) : l_inc t' l := by
  refine List.Pairwise.imp_of_mem (fun {x y} hx hy h => ?_) h
  rw [he x hx, he y hy]; exact h
theorem q_ok.to {a b : Nat → Nat} {c : Nat} {l : List Nat} (h : q_ok a c l) (h2 : b 2 = a 2) (hf : ∀ m f, m < a 2 → f = 2 ∨ f = 6 ∨ f = 8 → b (60 + 19 * m + f) = a (60 + 19 * m + f)) : q_ok b c l := by
  refine ⟨h.1.to (fun x hx => hf x 8 ((h.2 x).mp hx).1 (by omega)), fun m => ?_⟩
  rw [h.2 m, h2]
  constructor
  · rintro ⟨g1, g2, g3⟩
    exact ⟨g1, by rw [hf m 6 g1 (by omega)]; exact g2, by rw [hf m 2 g1 (by omega)]; exact g3⟩
  · rintro ⟨g1, g2, g3⟩
    exact ⟨g1, by rw [hf m 6 g1 (by omega)] at g2; exact g2, by rw [hf m 2 g1 (by omega)] at g3; exact g3⟩
/-- where the loop stands: c convents have had their turn -/
def nw_lp (n B : Nat) (q : Nat → List Nat) (ar : List Nat) (M0 : am_M) (c : Nat) (S : (Nat → Nat) × Nat) (M : am_M) (G : List Nat) : Prop :=
  nw1 n S.1 M ∧ nwQ n M q (S.1 1) ∧ nwR n M ar ∧ (∀ x, x ∈ G → (q (S.1 (60 + 19 * x + 2)))[0]? = some x) ∧ l_inc (fun m => S.1 (60 + 19 * m + 2)) G ∧ (∀ m, m ∈ G ↔ m < S.1 2 ∧ S.1 (60 + 19 * m + 10) = 1) ∧ (∀ m, m < S.1 2 → S.1 (60 + 19 * m + 10) ≤ 1 ∧ (S.1 (60 + 19 * m + 10) = 1 → S.1 (60 + 19 * m + 2) < c)) ∧ (∀ c', c' < S.1 1 → q_ok S.1 c' (q c')) ∧ S.2 < 64 ∧ ml_ok B S.1 ∧ nw_fo n M0 M
section Kpa
variable {d n B : Nat} {M M0 : am_M} {a : Nat → Nat} {w : am_W4}
set_option maxHeartbeats 4000000 in
theorem l49s {S : (Nat → Nat) × Nat} {G : List Nat} {q : Nat → List Nat} {ar : List Nat} {c : Nat} {x4 x5 x6 : Option am_V} (hn : n < 12) (hB0 : 1000 ≤ B) (hB : B < 1072000000) (h : nw_lp n B q ar M0 c S M G) (hc : c < S.1 1) :
    ∃ (M' : am_M) (G' : List Nat) (x4' x5' x6' : Option am_V), am_rn (am_ev (d + 4)) 49 9 [some (am_P (13, n, 0)), some (am_I (nI S.2)), some (am_I (nI (S.1 0 % 24))), some (am_I (nI c)), x4, x5, x6] [] M (am_Z w) = am_rn (am_ev (d + 4)) 49 9 [some (am_P (13, n, 0)), some (am_I (nI (ml_s1 S c).2)), some (am_I (nI (S.1 0 % 24))), some (am_I (nI (c + 1))), x4', x5', x6'] [] M' (am_Z w) ∧ nw_lp n (B + 1) q ar M0 (c + 1) (ml_s1 S c) M' G' := by
  obtain ⟨h1, hQ, hR, hH, hG1, hG2, hG3, hq, hk, hok, hfo⟩ := h
  obtain ⟨a, k⟩ := S
  dsimp only at *
  have hb := hok.1
  have hw := hok.2
  have b1 := hb.1
  have b2 := hb.2.1
  have hc6 : c < 6 := by omega
  have hF := h1.1
  have hql := (hq c hc).len
  obtain ⟨hQ1, hQ2⟩ := hQ c hc
  have skip : nw_lp n (B + 1) q ar M0 (c + 1) (a, k) M G := ⟨h1, hQ, hR, hH, hG1, hG2, fun m hm => ⟨(hG3 m hm).1, fun e => Nat.lt_succ_of_lt ((hG3 m hm).2 e)⟩, hq, hk, ⟨hb.mono (Nat.le_succ B), hw⟩, hfo⟩
  rw [b49_9 hn, hF.cc, if_pos (nI_lt hc (by omega)), if_pos (by rw [am_inT (by omega) hc6]; trivial), nI_clamp (by omega)]
  have hwt := (hq c hc).wt b2 (show (0 : Nat) < 2147483648 by decide)
  unfold ml_s1
  dsimp only
  by_cases hl : 0 < (q c).length
  · obtain ⟨m, hm⟩ : ∃ m, (q c)[0]? = some m := ⟨(q c)[0], List.getElem?_eq_getElem hl⟩
    have hmq := ((hq c hc).2 m).mp (List.mem_of_getElem? hm)
    obtain ⟨hm2, hhow, hat⟩ := hmq
    rw [k228s hn hc6 hQ1 (by omega) hm (hQ2 0 m hm)]
    simp (disch := omega) only [am_cb_i, am_cb_e, Option.toList_some, Option.toList_none, List.cons_append, List.nil_append]
    rw [b49_26 hn, k37n hn hF b2 hm2]
    simp (disch := omega) only [am_cb_i, am_cb_e, Option.toList_some, Option.toList_none, List.cons_append, List.nil_append]
    rw [b49_34 hn, if_neg (show ¬ nI 1 = 0 by decide), if_pos (by rw [am_inT (by omega) hc6]; trivial), nI_clamp (by omega), k18 hn hF hb hc]
    simp (disch := omega) only [am_cb_i, am_cb_e, Option.toList_some, Option.toList_none, List.cons_append, List.nil_append]
    rw [b49_47 hn]
    by_cases hs : ml_silent a c = true
    · rw [hs, if_neg (show ¬ nI true.toNat = 0 by decide), if_pos rfl, b49_134 hn, nI_add]
      exact ⟨M, G, _, _, _, rfl, skip⟩
    · have hs' : ml_silent a c = false := by simpa using hs
      rw [hs', if_pos (show nI false.toNat = 0 from rfl), if_neg (show ¬ (false = true) by decide)]
      obtain ⟨w0, w1, w2, w3, w4, w5, w6, w7, w8, w9, w10, w11, w12⟩ := hw m hm2
      have hm16 : m < 16 := by omega
      have hg0 : a (60 + 19 * m + 10) = 0 := by
        have g := hG3 m hm2
        rcases Nat.lt_or_ge (a (60 + 19 * m + 10)) 1 with e | e
        · omega
        · have := g.2 (by omega)
          omega
      have hnx1 : ml_next a m < a 1 := ml_next_lt w1 w2
      have hnx : ml_next a m < 6 := by omega
      have hadj : ml_next a m + 1 = c ∨ c + 1 = ml_next a m := by
        have hne := w11 hhow
        unfold ml_next
        split <;> omega
      have e31 := k31 (d := d + 3) (w := w) hn hF hm2 hm16 (by omega) (by omega) (fun e => w11 hhow e.symm)
      rw [hat] at e31
      rw [if_pos (by rw [am_inT (by omega) hm16]; trivial), nI_clamp (by omega), e31]
      simp (disch := omega) only [am_cb_i, am_cb_e, Option.toList_some, Option.toList_none, List.cons_append, List.nil_append]
      rw [b49_61 hn]
      rw [hwt, hm]
      dsimp only
      have bs := bt_shr k hk _ hnx
      obtain ⟨bo1, bo2⟩ := bt_or k hk _ hnx
      -- the state behind ring
      have hC1 : nwC a (ml_a1 a m) := (nwC.rf a).nu (by omega) (by omega) (by intros; omega) b2
      have hS := hok.S
      have F1 : nwF n (ml_a1 a m) (am_set M (21, n, c) 4 (M (21, n, c) 4 + nI 1)) := by
        have e1 : nwI 21 c 4 = 12 + 6 * a (60 + 19 * m + 2) + 4 := by rw [hat]; rfl
        have e2 : M (21, n, c) 4 + nI 1 = nI (a (12 + 6 * a (60 + 19 * m + 2) + 4) + 1) := by rw [hF.cv hc (show 4 < 6 by decide), nI_add, hat]
        rw [e2]
        have := nwF.set (t := 21) (k := c) (j := 4) (v := a (12 + 6 * a (60 + 19 * m + 2) + 4) + 1) hS (nwC.rf a) hF ⟨hc, by decide⟩ (by rw [e1]; exact hC1)
        rw [e1] at this
        exact this
      have fr1 : nw_fr n M (am_set M (21, n, c) 4 (M (21, n, c) 4 + nI 1)) := (nw_fr.rf n M).set (by omega)
      have pl1 : ∀ p, p < a 2 → (am_set M (21, n, c) 4 (M (21, n, c) 4 + nI 1)) (24, n, p) 5 = nI (nw_pl a p) := fun p hp => by rw [as_t (by decide)]; exact h1.2 p hp
      have hb1 : ml_b (B + 1) (ml_a1 a m) := by
        have b3 := hb.2.2.1 (12 + 6 * a (60 + 19 * m + 2) + 4) (by omega)
        exact ml_b.nu (hb.mono (Nat.le_succ B)) (by omega) (by omega) (by omega) (by intros; omega) (by intros; omega) (by omega) (by omega)
      have hh1 := k55 (d := d + 2) (w := w) hn F1 hb1 (c := c) (l := ml_next a m) (by rw [hC1.1]; exact hc) (by rw [hC1.1]; exact hnx1) hadj
      rw [ml_heard_a1 hc6 hnx (by omega)] at hh1
      generalize hM1 : am_set M (21, n, c) 4 (M (21, n, c) 4 + nI 1) = M1 at *
      have ringd : ∀ fst : Bool, ∃ (M' : am_M) (G' : List Nat), (∀ (y6 : Option am_V) (v6 : Int32), y6 = some (am_I v6) → am_rn (am_ev (d + 4)) 49 131 [some (am_P (13, n, 0)), some (am_I (nI (k ||| 2 ^ ml_next a m))), some (am_I (nI (a 0 % 24))), some (am_I (nI c)), some (am_I (nI m)), some (am_I (nI (ml_next a m))), y6] [am_I (nI (fst && ml_heard a c (ml_next a m)).toNat), am_I (nI (ml_next a m)), am_P (24, n, m), am_P (13, n, 0)] M1 (am_Z w) = am_rn (am_ev (d + 4)) 49 134 [some (am_P (13, n, 0)), some (am_I (nI (k ||| 2 ^ ml_next a m))), some (am_I (nI (a 0 % 24))), some (am_I (nI c)), some (am_I (nI m)), some (am_I (nI (ml_next a m))), y6] [] M' (am_Z w)) ∧ nw_lp n (B + 1) q ar M0 (c + 1) (ml_rings a m fst, k ||| 2 ^ ml_next a m) M' G' := by
        intro fst
        obtain ⟨M2, e2, h2, fr2⟩ := k50 (d := d + 1) (w := w) (fst := fst) hn (by omega) hb hw hm2 hhow hg0 F1 pl1
        rw [hat] at e2
        have hCR : nwC a (ml_rings a m fst) := ml_rings_C hb hw hm2
        have hRn : ∀ p f, p < 16 → f = 2 ∨ f = 6 ∨ f = 8 → ml_rings a m fst (60 + 19 * p + f) = a (60 + 19 * p + f) := fun p f hp hf => ml_rings_ne (by unfold ml_sz; omega)
        have hRg : ∀ p, p < 16 → p ≠ m → ml_rings a m fst (60 + 19 * p + 10) = a (60 + 19 * p + 10) := fun p hp hpm => ml_rings_ne (by unfold ml_sz; omega)
        have hok2 : ml_ok (B + 1) (ml_rings a m fst) := ⟨ml_rings_b hB0 hb hw hm2, ml_rings_w hb hw hm2 hhow⟩
        have fr12 := fr1.trans fr2
        have hq2 : ∀ c', c' < ml_rings a m fst 1 → q_ok (ml_rings a m fst) c' (q c') := fun c' hc' => by
          rw [hCR.1] at hc'
          exact (hq c' hc').to hCR.2.1 (fun p f hp hf => hRn p f (by omega) hf)
        have g2 : ml_rings a m fst (60 + 19 * m + 10) = 0 ∨ ml_rings a m fst (60 + 19 * m + 10) = 1 := by
          unfold ml_rings
          split
          · rw [ml_r1_ne (by omega) (by omega) (by omega)]; exact Or.inl hg0
          · unfold ml_r4
            split
            · rw [ml_r3_ne (by omega) (by omega) (by omega), ml_r2_ne (by omega) (by omega), ml_r1_ne (by omega) (by omega) (by omega)]; exact Or.inl hg0
            · rw [nu_eq]; exact Or.inr rfl
        have start : ∀ (y6 : Option am_V) (v6 : Int32), y6 = some (am_I v6) → am_rn (am_ev (d + 4)) 49 131 [some (am_P (13, n, 0)), some (am_I (nI (k ||| 2 ^ ml_next a m))), some (am_I (nI (a 0 % 24))), some (am_I (nI c)), some (am_I (nI m)), some (am_I (nI (ml_next a m))), y6] [am_I (nI (fst && ml_heard a c (ml_next a m)).toNat), am_I (nI (ml_next a m)), am_P (24, n, m), am_P (13, n, 0)] M1 (am_Z w) = am_rn (am_ev (d + 4)) 49 134 [some (am_P (13, n, 0)), some (am_I (nI (k ||| 2 ^ ml_next a m))), some (am_I (nI (a 0 % 24))), some (am_I (nI c)), some (am_I (nI m)), some (am_I (nI (ml_next a m))), y6] [] M2 (am_Z w) := by
          rintro y6 v6 rfl
          rw [b49_131 hn hm16, e2]
          simp (disch := omega) only [am_cb_i, am_cb_e, Option.toList_some, Option.toList_none, List.cons_append, List.nil_append]
        have hH2 : ∀ x, x ∈ G → (q (ml_rings a m fst (60 + 19 * x + 2)))[0]? = some x := fun x hx => by
          rw [hRn x 2 (by have := ((hG2 x).mp hx).1; omega) (by omega)]
          exact hH x hx
        rcases g2 with g2 | g2
        · refine ⟨M2, G, start, h2, (by dsimp only; rw [hCR.1]; exact hQ.fr fr12), hR.fr fr12, hH2, hG1.to (fun x hx => hRn x 2 (by have := ((hG2 x).mp hx).1; omega) (by omega)), fun p => ?_, fun p hp => ?_, hq2, bo2, hok2, hfo.tr fr12.fo⟩
          · dsimp only
            rw [hG2 p, hCR.2.1]
            by_cases hpm : p = m
            · subst hpm
              exact ⟨fun z => by omega, fun z => by have := z.2; omega⟩
            · exact ⟨fun z => ⟨z.1, by rw [hRg p (by omega) hpm]; exact z.2⟩, fun z => ⟨z.1, by have := z.2; rw [hRg p (by omega) hpm] at this; exact this⟩⟩
          · dsimp only at hp ⊢
            rw [hCR.2.1] at hp
            rw [hRn p 2 (by omega) (by omega)]
            by_cases hpm : p = m
            · subst hpm
              rw [g2]
              exact ⟨by omega, fun z => by omega⟩
            · rw [hRg p (by omega) hpm]
              exact ⟨(hG3 p hp).1, fun e => Nat.lt_succ_of_lt ((hG3 p hp).2 e)⟩
        · have hmG : m ∉ G := fun z => by have := ((hG2 m).mp z).2; omega
          refine ⟨M2, G ++ [m], start, h2, (by dsimp only; rw [hCR.1]; exact hQ.fr fr12), hR.fr fr12, fun x hx => ?_, ?_, fun p => ?_, fun p hp => ?_, hq2, bo2, hok2, hfo.tr fr12.fo⟩
          · rcases List.mem_append.mp hx with hx | hx
            · exact hH2 x hx
            · rw [List.mem_singleton.mp hx]
              dsimp only
              rw [hRn m 2 hm16 (by omega), hat]
              exact hm
          · refine l_inc.snoc (hG1.to (fun x hx => hRn x 2 (by have := ((hG2 x).mp hx).1; omega) (by omega))) (fun x hx => ?_)
            have hx2 := (hG2 x).mp hx
            have := (hG3 x hx2.1).2 hx2.2
            dsimp only
            rw [hRn x 2 (by omega) (by omega), hRn m 2 (by omega) (by omega), hat]
            exact this
          · dsimp only
            rw [List.mem_append, List.mem_singleton, hG2 p, hCR.2.1]
            by_cases hpm : p = m
            · subst hpm
              exact ⟨fun _ => ⟨hm2, g2⟩, fun _ => Or.inr rfl⟩
            · constructor
              · rintro (z | z)
                · exact ⟨z.1, by rw [hRg p (by omega) hpm]; exact z.2⟩
                · exact absurd z hpm
              · intro z
                exact Or.inl ⟨z.1, by have := z.2; rw [hRg p (by omega) hpm] at this; exact this⟩
          · dsimp only at hp ⊢
            rw [hCR.2.1] at hp
            rw [hRn p 2 (by omega) (by omega)]
            by_cases hpm : p = m
            · subst hpm
              rw [g2]
              exact ⟨by omega, fun _ => by omega⟩
            · rw [hRg p (by omega) hpm]
              exact ⟨(hG3 p hp).1, fun e => Nat.lt_succ_of_lt ((hG3 p hp).2 e)⟩
      by_cases hz : k / 2 ^ ml_next a m % 2 = 0
      · rw [decide_eq_true hz] at bs
        rw [if_pos (of_decide_eq_true bs), b49_77 hn, if_pos (by rw [am_inT (by omega) hc6]; trivial), if_pos (by rw [am_inT (by omega) hm16]; trivial), if_neg (show ¬ nI 1 = 0 by decide), nI_clamp (by omega), nI_clamp (by omega), hM1, bt_shl _ hnx, bo1, hh1]
        simp (disch := omega) only [am_cb_i, am_cb_e, Option.toList_some, Option.toList_none, List.cons_append, List.nil_append]
        rw [b49_123 hn hm16, b49_130 hn hm16, decide_eq_true hz]
        obtain ⟨M', G', e, hl'⟩ := ringd true
        have e2 := e (some (am_I (nI 1))) (nI 1) rfl
        rw [Bool.true_and] at e2
        cases hhd : ml_heard a c (ml_next a m) with
        | false =>
          rw [hhd] at e2
          rw [if_pos (show nI false.toNat = 0 from rfl)]
          rw [show nI false.toNat = nI 0 from rfl] at e2
          rw [e2, b49_134 hn, nI_add]
          exact ⟨M', G', _, _, _, rfl, hl'⟩
        | true =>
          rw [hhd] at e2
          rw [if_neg (show ¬ nI true.toNat = 0 by decide)]
          rw [show nI true.toNat = nI 1 from rfl] at e2
          rw [e2, b49_134 hn, nI_add]
          exact ⟨M', G', _, _, _, rfl, hl'⟩
      · rw [decide_eq_false hz] at bs
        rw [if_neg (of_decide_eq_false bs), b49_77 hn, if_pos (by rw [am_inT (by omega) hc6]; trivial), if_pos (by rw [am_inT (by omega) hm16]; trivial), if_pos (show nI 0 = 0 from rfl), nI_clamp (by omega), nI_clamp (by omega), hM1, bt_shl _ hnx, bo1, b49_130 hn hm16, decide_eq_false hz]
        obtain ⟨M', G', e, hl'⟩ := ringd false
        have e2 := e (some (am_I (nI 0))) (nI 0) rfl
        rw [Bool.false_and, show nI false.toNat = nI 0 from rfl] at e2
        rw [e2, b49_134 hn, nI_add]
        exact ⟨M', G', _, _, _, rfl, hl'⟩
  · have hl0 : (q c).length = 0 := by omega
    rw [k228n hn hc6 hQ1 hl0]
    simp (disch := omega) only [am_cb_i, am_cb_e, Option.toList_some, Option.toList_none, List.cons_append, List.nil_append]
    rw [b49_26 hn, k37m hn]
    simp (disch := omega) only [am_cb_i, am_cb_e, Option.toList_some, Option.toList_none, List.cons_append, List.nil_append]
    rw [b49_34 hn, if_pos (show nI 0 = 0 from rfl), b49_134 hn, nI_add, hwt, List.getElem?_eq_none (by omega)]
    dsimp only
    split
    · exact ⟨M, G, _, _, _, rfl, skip⟩
    · exact ⟨M, G, _, _, _, rfl, skip⟩
/-- all convents have had their turn -/
theorem l49a {q : Nat → List Nat} {ar : List Nat} (hn : n < 12) (hB0 : 1000 ≤ B) (hB : B < 1071000000) (hok : ml_ok B a) (h0 : nw_lp n B q ar M0 0 (a, 0) M []) : ∀ r c (M' : am_M) (G : List Nat) (x4 x5 x6 : Option am_V), c + r = a 1 → nw_lp n (B + c) q ar M0 c (fo ml_s1 (a, 0) c) M' G →
    ∃ (M'' : am_M) (G' : List Nat) (x4' x5' x6' : Option am_V), am_rn (am_ev (d + 4)) 49 9 [some (am_P (13, n, 0)), some (am_I (nI (fo ml_s1 (a, 0) c).2)), some (am_I (nI (a 0 % 24))), some (am_I (nI c)), x4, x5, x6] [] M' (am_Z w) = am_rn (am_ev (d + 4)) 49 142 [some (am_P (13, n, 0)), some (am_I (nI (fo ml_s1 (a, 0) (a 1)).2)), some (am_I (nI (a 0 % 24))), some (am_I (nI 0)), x4', x5', x6'] [] M'' (am_Z w) ∧ nw_lp n (B + a 1) q ar M0 (a 1) (fo ml_s1 (a, 0) (a 1)) M'' G' := by
  have b1 := hok.1.1
  intro r
  induction r with
  | zero =>
    intro c M' G x4 x5 x6 hc h
    obtain ⟨g1, g2, g3, g4⟩ := ml_f1_ok hB0 hok c
    rw [show c = a 1 by omega] at h ⊢
    rw [show c = a 1 by omega] at g3
    rw [b49_9 hn, h.1.1.cc, if_neg (nI_nlt (by omega) (by omega))]
    exact ⟨M', G, _, _, _, rfl, h⟩
  | succ r ih =>
    intro c M' G x4 x5 x6 hc h
    obtain ⟨g1, g2, g3, g4⟩ := ml_f1_ok hB0 hok c
    obtain ⟨M1, G1, y4, y5, y6, e1, h1⟩ := l49s (d := d) (w := w) (x4 := x4) (x5 := x5) (x6 := x6) hn (by omega) (by omega) h (by omega)
    have hz : (fo ml_s1 (a, 0) c).1 0 = a 0 := by
      clear h e1 h1 ih
      have key : ∀ c, c ≤ a 1 → (fo ml_s1 (a, 0) c).1 0 = a 0 := by
        intro c
        induction c with
        | zero => intro _; rfl
        | succ c ih2 =>
          intro hc
          obtain ⟨g1, g2, g3, g4⟩ := ml_f1_ok hB0 hok c
          rw [← ih2 (by omega)]
          show (ml_s1 (fo ml_s1 (a, 0) c) c).1 0 = _
          unfold ml_s1
          split
          · rfl
          · split
            · rfl
            · rename_i m hm
              obtain ⟨u1, u2, u3⟩ := ml_wt_some hm
              have b2 := g1.1.2.1
              exact ml_rings_ne (by unfold ml_sz; omega)
      exact key c (by omega)
    rw [hz] at e1
    rw [e1]
    exact ih (c + 1) M1 G1 y4 y5 y6 (by omega) h1
end Kpa
