/-! THE REFERENCE: A CONVENT, A PSALM -/
section Kcv
variable {d B : Nat} {M M' : am_M} {a b : Nat → Nat} {w : am_W4} {hs : List (Nat → Nat)} {sv : Option (Nat → Nat)} {tx ln : List Int32} {R : Int32 × Int32 × Int32} {e : Int32}
theorem mlS.now {i v : Nat} (h : mlS a hs sv tx R e ln M) : mlS (nu a i v) hs sv tx R e ln (am_set M (31, 0, 0) i (nI v)) := by
  have e1 : am_set M (31, 0, 0) i (nI v) = am_pA M (nu a i v) := by
    conv => lhs; rw [← am_pA_self h.1]
    exact am_pA_set _ _ _ _
  rw [e1]
  exact h.pA
theorem mlT.now {i : Nat} {x : Int32} (h : mlT b M) : mlT b (am_set M (31, 0, 0) i x) := fun j hj => by
  rw [as_ne (fun q => pl_t (by decide) q.1)]; exact h j hj
def pf (a : Nat → Nat) (x y : Nat) : Nat → Bool := fun i => decide (i ≠ x ∧ a (3 + i) = y)
def o_psl (a : Nat → Nat) (x y : Int32) : Out :=
  if am_bt x 1 8 then if am_bt y 1 150 then (match nf (pf a (cN x) (cN y)) 8 1 with | some i => .inr (6, nI i) | none => .inl (a (3 + cN x), nu a (3 + cN x) (cN y))) else .inr (1, nI 0) else .inr (1, nI 0)
def cn_z (a : Nat → Nat) (c : Nat) : Nat → (Nat → Nat) := fo (fun b i => nu b (12 + 6 * c + i) 0) a
def cnv (a : Nat → Nat) (x y z : Nat) : Nat → Nat :=
  nu (if 0 < a 1 then nu (nu (nu (nu (cn_z a (a 1) 6) (12 + 6 * a 1) x) (12 + 6 * a 1 + 1) y) (48 + 2 * (a 1 - 1)) z) (48 + 2 * (a 1 - 1) + 1) 0 else nu (nu (cn_z a (a 1) 6) (12 + 6 * a 1) x) (12 + 6 * a 1 + 1) y) 1 (a 1 + 1)
def o_cnv (a : Nat → Nat) (x y z : Int32) : Out :=
  if am_bt x 0 9 ∧ am_bt y 0 9 ∧ (0 < a 1 → am_bt z 1 9) then if a 1 = 6 then .inr (2, nI 6) else .inl (a 1, cnv a (cN x) (cN y) (cN z)) else .inr (1, nI 0)
theorem cn_z_1 {A : Nat → Nat} {c : Nat} : ∀ i, cn_z A c i 1 = A 1 := by
  intro i
  induction i with
  | zero => rfl
  | succ i ih =>
    rw [show cn_z A c (i + 1) = nu (cn_z A c i) (12 + 6 * c + i) 0 from rfl, nu_ne (by omega)]
    exact ih
end Kcv
