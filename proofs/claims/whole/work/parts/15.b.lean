/-! the reference's next order -/
def stl : List Nat → Nat → Nat → List Nat
  | [], _, _ => []
  | _ :: l, 0, v => v :: l
  | x :: l, i + 1, v => x :: stl l i v
theorem stl_gd : ∀ (l : List Nat) (i v j : Nat), i < l.length → gd (stl l i v) j = if j = i then v else gd l j
  | [], i, v, j, h => absurd h (Nat.not_lt_zero _)
  | x :: l, 0, v, 0, h => rfl
  | x :: l, 0, v, j + 1, h => by rw [if_neg (by omega)]; rfl
  | x :: l, i + 1, v, 0, h => by rw [if_neg (by omega)]; rfl
  | x :: l, i + 1, v, j + 1, h => by
    show gd (stl l i v) j = if j + 1 = i + 1 then v else gd l j
    rw [stl_gd l i v j (by rw [List.length_cons] at h; omega)]
    by_cases c : j = i
    · rw [if_pos c, if_pos (by omega)]
    · rw [if_neg c, if_neg (by omega)]
theorem stl_len : ∀ (l : List Nat) (i v : Nat), (stl l i v).length = l.length
  | [], _, _ => rfl
  | _ :: l, 0, v => rfl
  | x :: l, i + 1, v => by
    show (stl l i v).length + 1 = l.length + 1
    rw [stl_len l i v]
def n7 (l : List Nat) : Nat → Option Nat
  | 0 => none
  | i + 1 => bif Nat.ble (gd l i) (gd l (i + 1)) then some i else n7 l i
def n47 (l : List Nat) (i : Nat) : Nat → Nat
  | 0 => 0
  | j + 1 => bif Nat.ble (gd l i) (gd l (j + 1)) then j + 1 else n47 l i j
def n107 : Nat → List Nat → Nat → Nat → List Nat
  | 0, l, _, _ => l
  | f + 1, l, hi, lo => bif Nat.ble hi lo then l else n107 f (stl (stl l lo (gd l hi)) hi (gd l lo)) (hi - 1) (lo + 1)
def nxt (n : Nat) (l : List Nat) : Option (List Nat) := match n7 l (n - 1) with
  | none => none
  | some i => some (n107 n (stl (stl l i (gd l (n47 l i (n - 1)))) (n47 l i (n - 1)) (gd l i)) (n - 1) (i + 1))
def eqL : List Nat → List Nat → Bool
  | [], [] => true
  | x :: l, y :: r => bif Nat.beq x y then eqL l r else false
  | _, _ => false
theorem eqL_eq : ∀ l r, eqL l r = true → l = r
  | [], [], _ => rfl
  | x :: l, y :: r, h => by
    unfold eqL at h
    cases e : Nat.beq x y
    · rw [e] at h; exact Bool.noConfusion h
    · rw [e] at h
      rw [Nat.eq_of_beq_eq_true e, eqL_eq l r h]
  | [], _ :: _, h => Bool.noConfusion h
  | _ :: _, [], h => Bool.noConfusion h
def eqO : Option (List Nat) → List Nat → Bool
  | none, _ => false
  | some l, r => eqL l r
def isNo : Option (List Nat) → Bool
  | none => true
  | some _ => false
def chk (n : Nat) : List (List Nat) → Bool
  | [] => false
  | [l] => isNo (nxt n l)
  | l :: l' :: r => bif eqO (nxt n l) l' then chk n (l' :: r) else false
def hdO : List (List Nat) → List Nat → Bool
  | [], _ => false
  | l :: _, r => eqL l r
theorem chk2 : chk 2 (exts 2 2 0) = true := by decide +kernel
theorem chk3 : chk 3 (exts 3 3 0) = true := by decide +kernel
theorem chk4 : chk 4 (exts 4 4 0) = true := by decide +kernel
theorem chk5 : chk 5 (exts 5 5 0) = true := by decide +kernel
theorem chk6 : chk 6 (exts 6 6 0) = true := by decide +kernel
theorem chk7 : chk 7 (exts 7 7 0) = true := by decide +kernel
theorem len7 : ∀ n, n < 8 → (exts n n 0).length ≤ 5040 := by decide +kernel
theorem hd7 : ∀ n, n < 8 → hdO (exts n n 0) (List.range n) = true := by decide +kernel
