/-! WHO GOES: the reference's two loops, as one after the other moves -/
def ml_mv (b : Nat → Nat) (m : Nat) : Nat → Nat :=
  nu (nu (nu (nu (nu b (60 + 19 * m + 10) 0) (60 + 19 * m + 2) (ml_next b m)) (60 + 19 * m + 6) (if ml_next b m = b (60 + 19 * m + 1) then 1 else b (60 + 19 * m + 6))) (60 + 19 * m + 8) (b 3)) 3 (b 3 + 1)
def ml_u (b : Nat → Nat) (m : Nat) : Nat → Nat := nu (nu (nu b (60 + 19 * m + 10) 2) 3 (b 3 + 1)) (60 + 19 * m + 8) (b 3)
theorem s2_none {c : Nat} {b : Nat → Nat} : ∀ {n : Nat}, (∀ m, m < n → ¬ (b (60 + 19 * m + 10) = 1 ∧ b (60 + 19 * m + 2) = c)) → fo (ml_s2 c) b n = b
  | 0, _ => rfl
  | n + 1, h => by
    show ml_s2 c (fo (ml_s2 c) b n) n = b
    rw [s2_none (fun m hm => h m (by omega))]
    unfold ml_s2
    rw [if_neg (h n (by omega))]
theorem s2_one {c m0 : Nat} {b : Nat → Nat} : ∀ {n : Nat}, m0 < n → (b (60 + 19 * m0 + 10) = 1 ∧ b (60 + 19 * m0 + 2) = c) → (∀ m, m < n → m ≠ m0 → ¬ (b (60 + 19 * m + 10) = 1 ∧ b (60 + 19 * m + 2) = c)) → fo (ml_s2 c) b n = ml_u b m0
  | 0, h, _, _ => by omega
  | n + 1, h, hP, hN => by
    show ml_s2 c (fo (ml_s2 c) b n) n = _
    by_cases hn : n = m0
    · subst hn
      rw [s2_none (fun m hm => hN m (by omega) (by omega))]
      unfold ml_s2
      rw [if_pos hP]
      rfl
    · rw [s2_one (n := n) (by omega) hP (fun m hm => hN m (by omega))]
      unfold ml_s2
      rw [if_neg]
      intro q
      refine hN n (by omega) hn ?_
      unfold ml_u at q
      rw [nu_ne (by omega), nu_ne (by omega), nu_ne (by omega), nu_ne (by omega), nu_ne (by omega), nu_ne (by omega)] at q
      exact q
/-- b' is b with the messages of G on their way -/
def ml_st (b : Nat → Nat) (G : List Nat) (b' : Nat → Nat) : Prop := b' 3 = b 3 + G.length ∧ (∀ i m, G[i]? = some m → b' (60 + 19 * m + 10) = 2 ∧ b' (60 + 19 * m + 8) = b 3 + i) ∧ ∀ j, j ≠ 3 → (∀ m, m ∈ G → j ≠ 60 + 19 * m + 10 ∧ j ≠ 60 + 19 * m + 8) → b' j = b j
theorem ml_st.snoc {b b' : Nat → Nat} {G : List Nat} {x : Nat} (h : ml_st b G b') (hx : x ∉ G) : ml_st b (G ++ [x]) (ml_u b' x) := by
  obtain ⟨h1, h2, h3⟩ := h
  unfold ml_u
  refine ⟨?_, fun i m hm => ?_, fun j hj hG => ?_⟩
  · rw [nu_ne (by omega), nu_eq, h1, List.length_append, List.length_singleton]; omega
  · rcases Nat.lt_or_ge i G.length with hi | hi
    · rw [List.getElem?_append_left hi] at hm
      have hne : m ≠ x := fun e => hx (by rw [← e]; exact List.mem_of_getElem? hm)
      rw [nu_ne (by omega), nu_ne (by omega), nu_ne (by omega), nu_ne (by omega), nu_ne (by omega), nu_ne (by omega)]
      exact h2 i m hm
    · rw [List.getElem?_append_right hi] at hm
      have hi2 : i = G.length := by
        have := (List.getElem?_eq_some_iff.mp hm).1
        simp at this
        omega
      subst hi2
      simp at hm
      subst hm
      rw [nu_ne (by omega), nu_ne (by omega), nu_eq, nu_eq, h1]
      exact ⟨rfl, rfl⟩
  · have hx2 := hG x (by simp)
    rw [nu_ne hx2.2, nu_ne hj, nu_ne hx2.1]
    exact h3 j hj (fun m hm => hG m (by simp [hm]))
/-- the convents' turns to go -/
theorem ml_g2_st {b : Nat → Nat} {G : List Nat} (hG1 : l_inc (fun m => b (60 + 19 * m + 2)) G) (hG2 : ∀ m, m ∈ G ↔ m < b 2 ∧ b (60 + 19 * m + 10) = 1) (hg : ∀ m, m < b 2 → b (60 + 19 * m + 10) ≤ 1) : ∀ c, ∃ G1 G2, G = G1 ++ G2 ∧ (∀ x ∈ G1, b (60 + 19 * x + 2) < c) ∧ (∀ x ∈ G2, c ≤ b (60 + 19 * x + 2)) ∧ ml_st b G1 (fo ml_s2c b c) ∧ fo ml_s2c b c 2 = b 2
  | 0 => ⟨[], G, rfl, fun x h => absurd h List.not_mem_nil, fun x _ => Nat.zero_le _, ⟨rfl, fun i m h => by simp at h, fun j _ _ => rfl⟩, rfl⟩
  | c + 1 => by
    obtain ⟨G1, G2, e, h1, h2, h3, h4⟩ := ml_g2_st hG1 hG2 hg c
    have hnd := hG1.nodup
    subst e
    have h3' := h3
    obtain ⟨t1, t2, t3⟩ := h3
    show ∃ G1' G2', G1 ++ G2 = G1' ++ G2' ∧ _ ∧ _ ∧ ml_st b G1' (ml_s2c (fo ml_s2c b c) c) ∧ ml_s2c (fo ml_s2c b c) c 2 = b 2
    generalize fo ml_s2c b c = b' at *
    have fld : ∀ m, m < b 2 → m ∉ G1 → b' (60 + 19 * m + 10) = b (60 + 19 * m + 10) ∧ b' (60 + 19 * m + 2) = b (60 + 19 * m + 2) := fun m hm hm1 => ⟨t3 _ (by omega) (fun x hx => ⟨fun e => hm1 (by rw [show m = x by omega]; exact hx), by omega⟩), t3 _ (by omega) (fun x hx => ⟨by omega, by omega⟩)⟩
    have at1 : ∀ m, m ∈ G1 → b' (60 + 19 * m + 10) = 2 := fun m hm => by
      obtain ⟨i, hi⟩ := List.getElem?_of_mem hm
      exact (t2 i m hi).1
    have key : (∃ x G2', G2 = x :: G2' ∧ b (60 + 19 * x + 2) = c) ∨ ∀ x ∈ G2, c + 1 ≤ b (60 + 19 * x + 2) := by
      cases G2 with
      | nil => exact Or.inr (fun x h => absurd h List.not_mem_nil)
      | cons x G2' =>
        by_cases hx : b (60 + 19 * x + 2) = c
        · exact Or.inl ⟨x, G2', rfl, hx⟩
        · refine Or.inr (fun y hy => ?_)
          have h6 := h2 x List.mem_cons_self
          rcases List.mem_cons.mp hy with rfl | hy
          · omega
          · have h5 := (List.pairwise_cons.mp (List.pairwise_append.mp hG1).2.1).1 y hy
            dsimp only at h5
            omega
    rcases key with ⟨x, G2', rfl, hx⟩ | key
    · have hxG := (hG2 x).mp (by simp)
      have hx1 : x ∉ G1 := fun z => (List.nodup_append.mp hnd).2.2 x z x List.mem_cons_self rfl
      refine ⟨G1 ++ [x], G2', by simp, fun y hy => ?_, fun y hy => ?_, ?_, ?_⟩
      · rcases List.mem_append.mp hy with hy | hy
        · exact Nat.lt_succ_of_lt (h1 y hy)
        · rw [List.mem_singleton.mp hy, hx]; omega
      · have h5 := (List.pairwise_cons.mp (List.pairwise_append.mp hG1).2.1).1 y hy
        dsimp only at h5
        omega
      · have e1 : ml_s2c b' c = ml_u b' x := by
          unfold ml_s2c
          rw [h4]
          refine s2_one hxG.1 ⟨by rw [(fld x hxG.1 hx1).1]; exact hxG.2, by rw [(fld x hxG.1 hx1).2]; exact hx⟩ (fun m hm hmx q => ?_)
          by_cases hm1 : m ∈ G1
          · rw [at1 m hm1] at q
            omega
          · rw [(fld m hm hm1).1, (fld m hm hm1).2] at q
            have hmG := (hG2 m).mpr ⟨hm, q.1⟩
            rcases List.mem_append.mp hmG with z | z
            · exact hm1 z
            · rcases List.mem_cons.mp z with z | z
              · exact hmx z
              · have h5 := (List.pairwise_cons.mp (List.pairwise_append.mp hG1).2.1).1 m z
                dsimp only at h5
                omega
        rw [e1]
        exact h3'.snoc hx1
      · unfold ml_s2c
        rw [h4]
        have : ∀ n, fo (ml_s2 c) b' n 2 = b' 2 := by
          intro n
          induction n with
          | zero => rfl
          | succ n ih =>
            show ml_s2 c _ n 2 = _
            unfold ml_s2
            split
            · rw [nu_ne (by omega), nu_ne (by omega), nu_ne (by omega)]; exact ih
            · exact ih
        rw [this]; exact h4
    · refine ⟨G1, G2, rfl, fun y hy => Nat.lt_succ_of_lt (h1 y hy), key, ?_, ?_⟩
      · have e1 : ml_s2c b' c = b' := by
          unfold ml_s2c
          rw [h4]
          refine s2_none (fun m hm q => ?_)
          by_cases hm1 : m ∈ G1
          · rw [at1 m hm1] at q
            omega
          · rw [(fld m hm hm1).1, (fld m hm hm1).2] at q
            have hmG := (hG2 m).mpr ⟨hm, q.1⟩
            rcases List.mem_append.mp hmG with z | z
            · exact hm1 z
            · have := key m z
              omega
        rw [e1]
        exact h3'
      · have e1 : ml_s2c b' c = b' := by
          unfold ml_s2c
          rw [h4]
          refine s2_none (fun m hm q => ?_)
          by_cases hm1 : m ∈ G1
          · rw [at1 m hm1] at q
            omega
          · rw [(fld m hm hm1).1, (fld m hm hm1).2] at q
            have hmG := (hG2 m).mpr ⟨hm, q.1⟩
            rcases List.mem_append.mp hmG with z | z
            · exact hm1 z
            · have := key m z
              omega
        rw [e1]; exact h4
/-- b' is f with the first n messages that go moved on -/
def ml_t3 (f : Nat → Nat) (n : Nat) (s : (Nat → Nat) × Nat) : Prop :=
  (∀ m, m < n → f (60 + 19 * m + 10) = 2 → s.1 (60 + 19 * m + 10) = 0 ∧ s.1 (60 + 19 * m + 2) = ml_next f m ∧ s.1 (60 + 19 * m + 6) = if ml_next f m = f (60 + 19 * m + 1) then 1 else f (60 + 19 * m + 6)) ∧
  (∀ j, (∀ m, m < n → f (60 + 19 * m + 10) = 2 → j ≠ 60 + 19 * m + 10 ∧ j ≠ 60 + 19 * m + 2 ∧ j ≠ 60 + 19 * m + 6) → s.1 j = f j) ∧
  s.2 = nc (fun m => decide (f (60 + 19 * m + 10) = 2 ∧ ml_next f m = f (60 + 19 * m + 1))) n
theorem ml_g3_t {f : Nat → Nat} : ∀ n, ml_t3 f n (fo ml_s3 (f, 0) n)
  | 0 => ⟨fun m h => by omega, fun j _ => rfl, rfl⟩
  | n + 1 => by
    obtain ⟨h1, h2, h3⟩ := ml_g3_t (f := f) n
    show ml_t3 f (n + 1) (ml_s3 (fo ml_s3 (f, 0) n) n)
    generalize fo ml_s3 (f, 0) n = s at *
    obtain ⟨b', k⟩ := s
    dsimp only at h1 h2 h3
    have g : ∀ x, x < 19 → b' (60 + 19 * n + x) = f (60 + 19 * n + x) := fun x hx => h2 _ (fun m hm _ => by omega)
    have hnx : ml_next b' n = ml_next f n := by
      unfold ml_next
      rw [g 1 (by omega), g 2 (by omega)]
    have cnt : nc (fun m => decide (f (60 + 19 * m + 10) = 2 ∧ ml_next f m = f (60 + 19 * m + 1))) (n + 1) = k + (decide (f (60 + 19 * n + 10) = 2 ∧ ml_next f n = f (60 + 19 * n + 1))).toNat := by rw [h3]; rfl
    unfold ml_s3
    dsimp only
    by_cases hg : f (60 + 19 * n + 10) = 2
    · rw [if_pos (show b' (60 + 19 * n + 10) = 2 by rw [g 10 (by omega)]; exact hg)]
      by_cases hf : ml_next f n = f (60 + 19 * n + 1)
      · rw [if_pos (show ml_next b' n = b' (60 + 19 * n + 1) by rw [hnx, g 1 (by omega)]; exact hf), hnx]
        refine ⟨fun m hm hm2 => ?_, fun j hj => ?_, ?_⟩
        · dsimp only
          by_cases e : m = n
          · subst e
            rw [nu_ne (by omega), nu_ne (by omega), nu_eq, nu_ne (by omega), nu_eq, nu_eq, if_pos hf]
            exact ⟨rfl, rfl, rfl⟩
          · rw [nu_ne (by omega), nu_ne (by omega), nu_ne (by omega), nu_ne (by omega), nu_ne (by omega), nu_ne (by omega), nu_ne (by omega), nu_ne (by omega), nu_ne (by omega)]
            exact h1 m (by omega) hm2
        · dsimp only
          obtain ⟨j1, j2, j3⟩ := hj n (by omega) hg
          rw [nu_ne j3, nu_ne j2, nu_ne j1]
          exact h2 j (fun m hm hm2 => hj m (by omega) hm2)
        · dsimp only
          rw [cnt, decide_eq_true ⟨hg, hf⟩]; rfl
      · rw [if_neg (show ¬ ml_next b' n = b' (60 + 19 * n + 1) by rw [hnx, g 1 (by omega)]; exact hf), hnx]
        refine ⟨fun m hm hm2 => ?_, fun j hj => ?_, ?_⟩
        · dsimp only
          by_cases e : m = n
          · subst e
            rw [nu_ne (by omega), nu_eq, nu_eq, nu_ne (by omega), nu_ne (by omega), if_neg hf]
            exact ⟨rfl, rfl, g 6 (by omega)⟩
          · rw [nu_ne (by omega), nu_ne (by omega), nu_ne (by omega), nu_ne (by omega), nu_ne (by omega), nu_ne (by omega)]
            exact h1 m (by omega) hm2
        · dsimp only
          obtain ⟨j1, j2, j3⟩ := hj n (by omega) hg
          rw [nu_ne j2, nu_ne j1]
          exact h2 j (fun m hm hm2 => hj m (by omega) hm2)
        · dsimp only
          rw [cnt, decide_eq_false (fun q => hf q.2)]; rfl
    · rw [if_neg (show ¬ b' (60 + 19 * n + 10) = 2 by rw [g 10 (by omega)]; exact hg)]
      refine ⟨fun m hm hm2 => ?_, fun j hj => ?_, ?_⟩
      · by_cases e : m = n
        · subst e; exact absurd hm2 hg
        · exact h1 m (by omega) hm2
      · exact h2 j (fun m hm hm2 => hj m (by omega) hm2)
      · dsimp only
        rw [cnt, decide_eq_false (fun q => hg q.1)]; rfl
/-- what the moves of G make of b -/
def ml_ms (b : Nat → Nat) (G : List Nat) (b' : Nat → Nat) : Prop := b' 3 = b 3 + G.length ∧ (∀ i m, G[i]? = some m → b' (60 + 19 * m + 10) = 0 ∧ b' (60 + 19 * m + 8) = b 3 + i ∧ b' (60 + 19 * m + 2) = ml_next b m ∧ b' (60 + 19 * m + 6) = if ml_next b m = b (60 + 19 * m + 1) then 1 else b (60 + 19 * m + 6)) ∧ ∀ j, j ≠ 3 → (∀ m, m ∈ G → j ≠ 60 + 19 * m + 10 ∧ j ≠ 60 + 19 * m + 8 ∧ j ≠ 60 + 19 * m + 2 ∧ j ≠ 60 + 19 * m + 6) → b' j = b j
theorem ml_ms.snoc {b b' : Nat → Nat} {G : List Nat} {x : Nat} (h : ml_ms b G b') (hx : x ∉ G) : ml_ms b (G ++ [x]) (ml_mv b' x) := by
  obtain ⟨h1, h2, h3⟩ := h
  have g : ∀ f, f < 19 → b' (60 + 19 * x + f) = b (60 + 19 * x + f) := fun f hf => h3 _ (by omega) (fun m hm => by
    have : x ≠ m := fun e => hx (by rw [e]; exact hm)
    omega)
  have hnx : ml_next b' x = ml_next b x := by
    unfold ml_next
    rw [g 1 (by omega), g 2 (by omega)]
  unfold ml_mv
  rw [hnx, g 1 (by omega), g 6 (by omega)]
  refine ⟨?_, fun i m hm => ?_, fun j hj hG => ?_⟩
  · rw [nu_eq, h1, List.length_append, List.length_singleton]; omega
  · rcases Nat.lt_or_ge i G.length with hi | hi
    · rw [List.getElem?_append_left hi] at hm
      have hne : m ≠ x := fun e => hx (by rw [← e]; exact List.mem_of_getElem? hm)
      have gg : ∀ f, f < 19 → nu (nu (nu (nu (nu b' (60 + 19 * x + 10) 0) (60 + 19 * x + 2) (ml_next b x)) (60 + 19 * x + 6) (if ml_next b x = b (60 + 19 * x + 1) then 1 else b (60 + 19 * x + 6))) (60 + 19 * x + 8) (b' 3)) 3 (b' 3 + 1) (60 + 19 * m + f) = b' (60 + 19 * m + f) := fun f hf => by rw [nu_ne (by omega), nu_ne (by omega), nu_ne (by omega), nu_ne (by omega), nu_ne (by omega)]
      rw [gg 10 (by omega), gg 8 (by omega), gg 2 (by omega), gg 6 (by omega)]
      exact h2 i m hm
    · rw [List.getElem?_append_right hi] at hm
      have hi2 : i = G.length := by
        have := (List.getElem?_eq_some_iff.mp hm).1
        simp at this
        omega
      subst hi2
      simp at hm
      subst hm
      rw [nu_ne (by omega), nu_ne (by omega), nu_ne (by omega), nu_ne (by omega), nu_eq, nu_ne (by omega), nu_eq, nu_ne (by omega), nu_ne (by omega), nu_ne (by omega), nu_eq, nu_ne (by omega), nu_ne (by omega), nu_eq, h1]
      exact ⟨rfl, rfl, rfl, rfl⟩
  · have hx2 := hG x (by simp)
    rw [nu_ne hj, nu_ne hx2.2.1, nu_ne hx2.2.2.2, nu_ne hx2.2.2.1, nu_ne hx2.1]
    exact h3 j hj (fun m hm => hG m (by simp [hm]))
theorem ml_ms.fold {b : Nat → Nat} : ∀ {G2 G1 : List Nat} {b' : Nat → Nat}, ml_ms b G1 b' → (G1 ++ G2).Nodup → ml_ms b (G1 ++ G2) (G2.foldl ml_mv b')
  | [], G1, b', h, _ => by simpa using h
  | x :: G2, G1, b', h, hd => by
    have hx : x ∉ G1 := fun z => (List.nodup_append.mp hd).2.2 x z x List.mem_cons_self rfl
    have := ml_ms.fold (G2 := G2) (h.snoc hx) (by simpa using hd)
    simpa using this
theorem ml_ms.rf (b : Nat → Nat) : ml_ms b [] b := ⟨rfl, fun i m h => by simp at h, fun _ _ _ => rfl⟩
/-- the two loops are the moves -/
theorem ml_g3_mv {a : Nat → Nat} {G : List Nat} (hG1 : l_inc (fun m => ml_g1 a (60 + 19 * m + 2)) G) (hG2 : ∀ m, m ∈ G ↔ m < ml_g1 a 2 ∧ ml_g1 a (60 + 19 * m + 10) = 1) (hg : ∀ m, m < ml_g1 a 2 → ml_g1 a (60 + 19 * m + 10) ≤ 1 ∧ ml_g1 a (60 + 19 * m + 2) < ml_g1 a 1) : (ml_g3 a).1 = G.foldl ml_mv (ml_g1 a) ∧ ml_arr a = G.countP (fun m => decide (ml_next (ml_g1 a) m = ml_g1 a (60 + 19 * m + 1))) := by
  obtain ⟨Ga, Gb, e, h1, h2, h3, h4⟩ := ml_g2_st hG1 hG2 (fun m hm => (hg m hm).1) (ml_g1 a 1)
  have hGb : Gb = [] := by
    cases Gb with
    | nil => rfl
    | cons x Gb =>
      have hx := (hG2 x).mp (by rw [e]; simp)
      have := h2 x List.mem_cons_self
      have := (hg x hx.1).2
      omega
  subst hGb
  rw [List.append_nil] at e
  subst e
  have hnd := hG1.nodup
  have hms := ml_ms.fold (ml_ms.rf (ml_g1 a)) (G2 := G) (by simpa using hnd)
  rw [List.nil_append] at hms
  rw [show fo ml_s2c (ml_g1 a) (ml_g1 a 1) = ml_g2 a from rfl] at h3 h4
  have h5 := ml_g3_t (f := ml_g2 a) (ml_g2 a 2)
  rw [show fo ml_s3 (ml_g2 a, 0) (ml_g2 a 2) = ml_g3 a from rfl] at h5
  have hcnt : ml_arr a = (ml_g3 a).2 := rfl
  rw [hcnt]
  rw [h4] at h5
  generalize ml_g2 a = f at *
  generalize ml_g3 a = s at *
  generalize ml_g1 a = b at *
  obtain ⟨t1, t2, t3⟩ := h3
  obtain ⟨u1, u2, u3⟩ := h5
  obtain ⟨v1, v2, v3⟩ := hms
  -- who is on the way in f
  have f10 : ∀ m, m < b 2 → (f (60 + 19 * m + 10) = 2 ↔ m ∈ G) := by
    intro m hm
    constructor
    · intro q
      by_cases hmG : m ∈ G
      · exact hmG
      · rw [t3 _ (by omega) (fun x hx => ⟨fun e => hmG (by rw [show m = x by omega]; exact hx), by omega⟩)] at q
        have := (hg m hm).1
        omega
    · intro q
      obtain ⟨i, hi⟩ := List.getElem?_of_mem q
      exact (t2 i m hi).1
  have f12 : ∀ m x, x = 1 ∨ x = 2 ∨ x = 6 → f (60 + 19 * m + x) = b (60 + 19 * m + x) := fun m x hx => t3 _ (by omega) (fun y hy => by omega)
  have fnx : ∀ m, ml_next f m = ml_next b m := fun m => by
    unfold ml_next
    rw [f12 m 1 (by omega), f12 m 2 (by omega)]
  refine ⟨?_, ?_⟩
  · funext j
    by_cases hj3 : j = 3
    · subst hj3
      rw [v1, u2 3 (fun m _ _ => by omega), t1]
    · by_cases hjm : ∃ m, m ∈ G ∧ (j = 60 + 19 * m + 10 ∨ j = 60 + 19 * m + 8 ∨ j = 60 + 19 * m + 2 ∨ j = 60 + 19 * m + 6)
      · obtain ⟨m, hm, hj⟩ := hjm
        obtain ⟨i, hi⟩ := List.getElem?_of_mem hm
        obtain ⟨y1, y2, y3, y4⟩ := v2 i m hi
        have hm2 := ((hG2 m).mp hm).1
        obtain ⟨z1, z2, z3⟩ := u1 m hm2 ((f10 m hm2).mpr hm)
        rcases hj with rfl | rfl | rfl | rfl
        · rw [y1, z1]
        · rw [y2, u2 _ (fun x _ _ => by omega), (t2 i m hi).2]
        · rw [y3, z2, fnx]
        · rw [y4, z3, fnx, f12 m 1 (by omega), f12 m 6 (by omega)]
      · have hjm : ∀ m, m ∈ G → j ≠ 60 + 19 * m + 10 ∧ j ≠ 60 + 19 * m + 8 ∧ j ≠ 60 + 19 * m + 2 ∧ j ≠ 60 + 19 * m + 6 := fun m hm => ⟨fun q => hjm ⟨m, hm, by omega⟩, fun q => hjm ⟨m, hm, by omega⟩, fun q => hjm ⟨m, hm, by omega⟩, fun q => hjm ⟨m, hm, by omega⟩⟩
        rw [v3 j hj3 hjm, u2 j (fun m hm hm2 => by
          have := hjm m ((f10 m hm).mp hm2)
          exact ⟨this.1, this.2.2.1, this.2.2.2⟩), t3 j hj3 (fun m hm => ⟨(hjm m hm).1, (hjm m hm).2.1⟩)]
  · rw [u3, ← nc_mem hnd (n := b 2) (fun x hx => ((hG2 x).mp hx).1)]
    refine nc_congr (fun m hm => ?_)
    rw [fnx, f12 m 1 (by omega)]
    have := f10 m hm
    by_cases hmG : m ∈ G
    · simp only [this.mpr hmG, hmG, true_and, decide_true, Bool.true_and]
    · rw [decide_eq_false (fun q => hmG (this.mp q.1)), decide_eq_false hmG, Bool.false_and]
