/-! COUNTING AND ORDERED LISTS -/
theorem nc_congr {P Q : Nat → Bool} : ∀ {n : Nat}, (∀ k, k < n → P k = Q k) → nc P n = nc Q n
  | 0, _ => rfl
  | n + 1, h => by
    show nc P n + (P n).toNat = nc Q n + (Q n).toNat
    rw [nc_congr (fun k hk => h k (by omega)), h n (by omega)]
theorem nc_none {P : Nat → Bool} : ∀ {n : Nat}, (∀ k, k < n → P k = false) → nc P n = 0
  | 0, _ => rfl
  | n + 1, h => by
    show nc P n + (P n).toNat = 0
    rw [nc_none (fun k hk => h k (by omega)), h n (by omega)]; rfl
theorem nc_add {P Q R : Nat → Bool} : ∀ {n : Nat}, (∀ k, k < n → (R k).toNat = (P k).toNat + (Q k).toNat) → nc R n = nc P n + nc Q n
  | 0, _ => rfl
  | n + 1, h => by
    show nc R n + (R n).toNat = nc P n + (P n).toNat + (nc Q n + (Q n).toNat)
    rw [nc_add (fun k hk => h k (by omega)), h n (by omega)]; omega
theorem nc_one {x : Nat} {f : Nat → Bool} : ∀ {n : Nat}, nc (fun k => decide (k = x) && f k) n = if x < n then (f x).toNat else 0
  | 0 => rfl
  | n + 1 => by
    show nc _ n + (decide (n = x) && f n).toNat = _
    rw [nc_one]
    by_cases h : n = x
    · subst h
      rw [if_neg (by omega), if_pos (by omega)]
      simp
    · by_cases h2 : x < n
      · rw [if_pos h2, if_pos (by omega)]; simp [h]
      · rw [if_neg h2, if_neg (by omega)]; simp [h]
/-- counting the members of a list -/
theorem nc_mem {f : Nat → Bool} {n : Nat} : ∀ {l : List Nat}, l.Nodup → (∀ x ∈ l, x < n) → nc (fun k => decide (k ∈ l) && f k) n = l.countP f
  | [], _, _ => nc_none (fun k _ => by simp)
  | x :: l, hd, hx => by
    have h1 := List.nodup_cons.mp hd
    rw [nc_add (P := fun k => decide (k = x) && f k) (Q := fun k => decide (k ∈ l) && f k), nc_one, nc_mem h1.2 (fun y hy => hx y (List.mem_cons_of_mem _ hy)), if_pos (hx x List.mem_cons_self), List.countP_cons]
    · cases f x <;> simp <;> omega
    · intro k _
      by_cases e : k = x
      · subst e
        simp [h1.1]
      · simp [e]
theorem nc_len {n : Nat} {l : List Nat} (hd : l.Nodup) (hx : ∀ x ∈ l, x < n) : l.length ≤ n := by
  have h := nc_mem (f := fun _ => true) hd hx
  rw [List.countP_true] at h
  rw [← h]
  exact nc_le _ _
def l_inc (t : Nat → Nat) (l : List Nat) : Prop := l.Pairwise (fun x y => t x < t y)
theorem l_inc.nodup {t : Nat → Nat} {l : List Nat} (h : l_inc t l) : l.Nodup := List.Pairwise.imp (fun h e => by subst e; omega) h
theorem l_inc.count {t : Nat → Nat} : ∀ {l : List Nat} {i : Nat} {m : Nat}, l_inc t l → l[i]? = some m → l.countP (fun q => decide (t q < t m)) = i
  | [], _, _, _, h => by simp at h
  | x :: l, 0, m, h, hm => by
    simp only [List.getElem?_cons_zero, Option.some.injEq] at hm
    subst hm
    have h1 := List.pairwise_cons.mp h
    rw [List.countP_eq_zero]
    intro y hy
    rcases List.mem_cons.mp hy with e | hy
    · subst e; simp
    · have := h1.1 y hy
      simp; omega
  | x :: l, i + 1, m, h, hm => by
    rw [List.getElem?_cons_succ] at hm
    have h1 := List.pairwise_cons.mp h
    rw [List.countP_cons, l_inc.count h1.2 hm, if_pos (by have := h1.1 m (List.mem_of_getElem? hm); simpa using this)]
/-- who waits at c, in order -/
def q_ok (a : Nat → Nat) (c : Nat) (l : List Nat) : Prop := l_inc (fun m => a (60 + 19 * m + 8)) l ∧ ∀ m, m ∈ l ↔ (m < a 2 ∧ a (60 + 19 * m + 6) = 0 ∧ a (60 + 19 * m + 2) = c)
/-- who arrived, in order -/
def r_ok (a : Nat → Nat) (l : List Nat) : Prop := l_inc (fun m => a (60 + 19 * m + 8)) l ∧ ∀ m, m ∈ l ↔ (m < a 2 ∧ a (60 + 19 * m + 6) = 1)
theorem nf_none {P : Nat → Bool} : ∀ {r k : Nat}, (∀ m, k ≤ m → m < k + r → P m = false) → nf P r k = none
  | 0, _, _ => rfl
  | r + 1, k, h => by
    unfold nf
    rw [h k (Nat.le_refl _) (by omega), if_neg (by decide)]
    exact nf_none (fun m h1 h2 => h m (by omega) (by omega))
theorem nf_uniq {P : Nat → Bool} {m : Nat} : ∀ {r k : Nat}, k ≤ m → m < k + r → P m = true → (∀ q, P q = true → k ≤ q → q < k + r → q = m) → nf P r k = some m
  | 0, _, h1, h2, _, _ => by omega
  | r + 1, k, h1, h2, h3, h4 => by
    unfold nf
    by_cases hp : P k = true
    · rw [if_pos hp, h4 k hp (Nat.le_refl _) (by omega)]
    · rw [if_neg hp]
      have hk : k ≠ m := fun e => hp (by rw [e]; exact h3)
      exact nf_uniq (by omega) (by omega) h3 (fun q hq h5 h6 => h4 q hq (by omega) (by omega))
theorem q_ok.len {a : Nat → Nat} {c : Nat} {l : List Nat} (h : q_ok a c l) : l.length ≤ a 2 := nc_len h.1.nodup (fun x hx => ((h.2 x).mp hx).1)
theorem r_ok.len {a : Nat → Nat} {l : List Nat} (h : r_ok a l) : l.length ≤ a 2 := nc_len h.1.nodup (fun x hx => ((h.2 x).mp hx).1)
theorem q_ok.bef {a : Nat → Nat} {c i m : Nat} {l : List Nat} (h : q_ok a c l) (hm : l[i]? = some m) : ml_bef a m c = i := by
  have h1 := nc_mem (f := fun q => decide (a (60 + 19 * q + 8) < a (60 + 19 * m + 8))) h.1.nodup (fun x hx => ((h.2 x).mp hx).1)
  rw [h.1.count hm] at h1
  rw [← h1]
  refine nc_congr (fun k hk => ?_)
  unfold ml_befP ml_waits
  congr 1
  rw [decide_eq_decide, h.2 k]
  exact ⟨fun g => ⟨hk, g⟩, fun g => g.2⟩
theorem q_ok.waits {a : Nat → Nat} {c m : Nat} {l : List Nat} (h : q_ok a c l) (hm : m < a 2) : ml_waits a m c = decide (m ∈ l) := by
  unfold ml_waits
  rw [decide_eq_decide, h.2 m]
  exact ⟨fun g => ⟨hm, g⟩, fun g => g.2⟩
theorem q_ok.wt {a : Nat → Nat} {c : Nat} {l : List Nat} (h : q_ok a c l) {p : Nat} (ha : a 2 ≤ 16) (hp : p < 2147483648) : ml_wt a c (nI p) = l[p]? := by
  have hlen := h.len
  have key : ∀ i m, l[i]? = some m → ml_wtP a c (nI p) m = decide (i = p) := by
    intro i m hm
    have hi := (List.getElem?_eq_some_iff.mp hm).1
    unfold ml_wtP
    rw [h.waits ((h.2 m).mp (List.mem_of_getElem? hm)).1, h.bef hm, decide_eq_true (List.mem_of_getElem? hm), Bool.true_and, decide_eq_decide]
    exact nI_eq (by omega) hp
  unfold ml_wt
  cases hp2 : l[p]? with
  | none =>
    refine nf_none (fun m _ hm => ?_)
    by_cases hml : m ∈ l
    · obtain ⟨i, hi⟩ := List.getElem?_of_mem hml
      rw [key i m hi]
      refine decide_eq_false (fun e => ?_)
      subst e
      rw [hp2] at hi
      cases hi
    · unfold ml_wtP
      rw [h.waits (by omega), decide_eq_false hml]; rfl
  | some m =>
    have hm := ((h.2 m).mp (List.mem_of_getElem? hp2)).1
    refine nf_uniq (Nat.zero_le _) (by omega) (by rw [key p m hp2]; exact decide_eq_true rfl) (fun q hq _ hq2 => ?_)
    by_cases hml : q ∈ l
    · obtain ⟨i, hi⟩ := List.getElem?_of_mem hml
      rw [key i q hi] at hq
      have e := of_decide_eq_true hq
      subst e
      rw [hp2] at hi
      exact (Option.some.inj hi).symm
    · unfold ml_wtP at hq
      rw [h.waits (by omega), decide_eq_false hml] at hq
      cases hq
theorem q_ok.wt_neg {a : Nat → Nat} {c : Nat} {l : List Nat} {x : Int32} (h : q_ok a c l) (ha : a 2 ≤ 16) (hx : x < 0) : ml_wt a c x = none := by
  refine nf_none (fun m _ hm => ?_)
  unfold ml_wtP
  have hb : ml_bef a m c ≤ a 2 := nc_le _ _
  rw [decide_eq_false (p := nI (ml_bef a m c) = x) (fun e => nI_pos (n := ml_bef a m c) (by omega) (by rw [e]; exact hx)), Bool.and_false]
