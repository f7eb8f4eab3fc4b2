/-! orders: all of them, what a law of steps lets be, how many, the least, the first -/
def exts (n : Nat) : Nat → Nat → List (List Nat)
  | 0, _ => [[]]
  | k + 1, s => (List.range n).flatMap fun x => if s.testBit x = true then [] else (exts n k (s ||| 2 ^ x)).map (List.cons x)
def okM (n : Nat) : Nat → List Nat → Prop
  | _, [] => True
  | s, x :: l => x < n ∧ s.testBit x = false ∧ okM n (s ||| 2 ^ x) l
theorem exts_mem {n : Nat} : ∀ k s l, l ∈ exts n k s → l.length = k ∧ okM n s l
  | 0, s, l, h => by
    have : l = [] := List.mem_singleton.mp h
    subst this
    exact ⟨rfl, trivial⟩
  | k + 1, s, l, h => by
    unfold exts at h
    rw [List.mem_flatMap] at h
    obtain ⟨x, hx, h⟩ := h
    have hx := List.mem_range.mp hx
    by_cases c : s.testBit x = true
    · rw [if_pos c] at h; exact absurd h List.not_mem_nil
    · rw [if_neg c, List.mem_map] at h
      obtain ⟨l', h1, rfl⟩ := h
      obtain ⟨a, b⟩ := exts_mem k _ l' h1
      exact ⟨by rw [List.length_cons, a], hx, by cases e : s.testBit x; rfl; exact absurd e c, b⟩
def gd : List Nat → Nat → Nat
  | [], _ => 0
  | x :: _, 0 => x
  | _ :: l, i + 1 => gd l i
theorem okM_gd {n : Nat} : ∀ l s, okM n s l → ∀ p, p < l.length → gd l p < n ∧ s.testBit (gd l p) = false
  | [], _, _, p, hp => absurd hp (Nat.not_lt_zero _)
  | x :: l, s, h, 0, _ => ⟨h.1, h.2.1⟩
  | x :: l, s, h, p + 1, hp => by
    have := okM_gd l _ h.2.2 p (by rw [List.length_cons] at hp; omega)
    refine ⟨this.1, ?_⟩
    have q := this.2
    rw [tb_or, Bool.or_eq_false_iff] at q
    exact q.1
theorem okM_inj {n : Nat} : ∀ l s, okM n s l → ∀ p q, p < l.length → q < l.length → gd l p = gd l q → p = q
  | [], _, _, p, q, hp, _, _ => absurd hp (Nat.not_lt_zero _)
  | x :: l, s, h, 0, 0, _, _, _ => rfl
  | x :: l, s, h, 0, q + 1, _, hq, e => by
    have := (okM_gd l _ h.2.2 q (by rw [List.length_cons] at hq; omega)).2
    rw [show gd l q = x from e.symm, tb_or, decide_eq_true rfl, Bool.or_true] at this
    exact Bool.noConfusion this
  | x :: l, s, h, p + 1, 0, hp, _, e => by
    have := (okM_gd l _ h.2.2 p (by rw [List.length_cons] at hp; omega)).2
    rw [show gd l p = x from e, tb_or, decide_eq_true rfl, Bool.or_true] at this
    exact Bool.noConfusion this
  | x :: l, s, h, p + 1, q + 1, hp, hq, e => by
    have := okM_inj l _ h.2.2 p q (by rw [List.length_cons] at hp; omega) (by rw [List.length_cons] at hq; omega) e
    omega
section
variable {S : Type} (st : S → Nat → Nat → Option S) (fn : S → Bool) (w : Nat → Nat → Nat) (n : Nat)
def acc : S → Nat → List Nat → Bool
  | s, _, [] => fn s
  | s, p, x :: l => match st s p x with
    | none => false
    | some s' => acc s' (p + 1) l
def sumR (f : Nat → Nat) : Nat → Nat
  | 0 => 0
  | k + 1 => sumR f k + f k
def minR (f : Nat → Nat) : Nat → Nat
  | 0 => 1000
  | k + 1 => min (minR f k) (f k)
def cntA : Nat → Nat → S → Nat → Nat
  | 0, _, s, _ => if fn s = true then 1 else 0
  | k + 1, m, s, p => sumR (fun x => if m.testBit x = true then 0 else match st s p x with
    | none => 0
    | some s' => cntA k (m ||| 2 ^ x) s' (p + 1)) n
def lstA : Nat → Nat → S → Nat → Nat
  | 0, _, s, _ => if fn s = true then 0 else 1000
  | k + 1, m, s, p => minR (fun x => if m.testBit x = true then 1000 else match st s p x with
    | none => 1000
    | some s' => max (w x p) (lstA k (m ||| 2 ^ x) s' (p + 1))) n
def mxW : Nat → List Nat → Nat
  | _, [] => 0
  | p, x :: l => max (w x p) (mxW (p + 1) l)
end
theorem cP_range {α : Type} (q : α → Bool) (g : Nat → List α) : ∀ m, ((List.range m).flatMap g).countP q = sumR (fun x => (g x).countP q) m
  | 0 => rfl
  | m + 1 => by
    rw [List.range_succ, List.flatMap_append, List.countP_append, cP_range q g m]
    show _ = sumR _ m + _
    rw [List.flatMap_cons, List.flatMap_nil, List.append_nil]
theorem sumR_congr {f g : Nat → Nat} : ∀ m, (∀ x, x < m → f x = g x) → sumR f m = sumR g m
  | 0, _ => rfl
  | m + 1, h => by
    show sumR f m + f m = sumR g m + g m
    rw [sumR_congr m (fun x hx => h x (by omega)), h m (by omega)]
theorem cP_false {α : Type} : ∀ l : List α, l.countP (fun _ => false) = 0
  | [] => rfl
  | x :: l => by rw [List.countP_cons, cP_false l]; rfl
theorem cntA_eq {S : Type} (st : S → Nat → Nat → Option S) (fn : S → Bool) (n : Nat) : ∀ k m s p, cntA st fn n k m s p = (exts n k m).countP (acc st fn s p)
  | 0, m, s, p => by
    show (if fn s = true then 1 else 0) = List.countP _ [[]]
    rw [List.countP_cons, List.countP_nil]
    show _ = 0 + if acc st fn s p [] = true then 1 else 0
    rw [Nat.zero_add]
    rfl
  | k + 1, m, s, p => by
    unfold exts
    rw [cP_range]
    unfold cntA
    refine sumR_congr n (fun x _ => ?_)
    by_cases c : m.testBit x = true
    · rw [if_pos c, if_pos c]; rfl
    · rw [if_neg c, if_neg c, List.countP_map]
      cases e : st s p x with
      | none =>
        have : (acc st fn s p ∘ List.cons x) = fun _ => false := by
          funext l
          show acc st fn s p (x :: l) = false
          unfold acc
          rw [e]
        rw [this, cP_false]
      | some s' =>
        have : (acc st fn s p ∘ List.cons x) = acc st fn s' (p + 1) := by
          funext l
          show acc st fn s p (x :: l) = _
          rw [acc, e]
        rw [this, ← cntA_eq st fn n k]
theorem minR_le {f : Nat → Nat} {g : Nat} (hg : g < 1000) : ∀ m, (minR f m ≤ g ↔ ∃ x, x < m ∧ f x ≤ g)
  | 0 => ⟨fun h => by unfold minR at h; omega, fun ⟨x, h, _⟩ => by omega⟩
  | m + 1 => by
    show min (minR f m) (f m) ≤ g ↔ _
    have ih := minR_le (f := f) hg m
    constructor
    · intro h
      by_cases c : f m ≤ g
      · exact ⟨m, by omega, c⟩
      · obtain ⟨x, h1, h2⟩ := ih.mp (by omega)
        exact ⟨x, by omega, h2⟩
    · intro ⟨x, h1, h2⟩
      by_cases c : x = m
      · subst c; omega
      · have := ih.mpr ⟨x, by omega, h2⟩
        omega
theorem minR_top {f : Nat → Nat} : ∀ m, minR f m ≤ 1000
  | 0 => Nat.le_refl _
  | m + 1 => Nat.le_trans (Nat.min_le_left _ _) (minR_top m)
theorem lstA_top {S : Type} (st : S → Nat → Nat → Option S) (fn : S → Bool) (w : Nat → Nat → Nat) (n : Nat) : ∀ k m s p, lstA st fn w n k m s p ≤ 1000
  | 0, m, s, p => by unfold lstA; split <;> omega
  | k + 1, m, s, p => minR_top n
theorem lstA_le {S : Type} (st : S → Nat → Nat → Option S) (fn : S → Bool) (w : Nat → Nat → Nat) (n : Nat) {g : Nat} (hg : g < 1000) : ∀ k m s p, (lstA st fn w n k m s p ≤ g ↔ ∃ l, l ∈ exts n k m ∧ acc st fn s p l = true ∧ mxW w p l ≤ g)
  | 0, m, s, p => by
    show (if fn s = true then 0 else 1000) ≤ g ↔ _
    constructor
    · intro h
      by_cases c : fn s = true
      · exact ⟨[], List.mem_singleton.mpr rfl, c, Nat.zero_le _⟩
      · rw [if_neg c] at h; omega
    · intro ⟨l, h1, h2, _⟩
      have : l = [] := List.mem_singleton.mp h1
      subst this
      rw [if_pos (show fn s = true from h2)]
      exact Nat.zero_le _
  | k + 1, m, s, p => by
    unfold lstA
    rw [minR_le hg]
    constructor
    · intro ⟨x, hx, h⟩
      by_cases c : m.testBit x = true
      · rw [if_pos c] at h; omega
      · rw [if_neg c] at h
        cases e : st s p x with
        | none => rw [e] at h; change 1000 ≤ g at h; omega
        | some s' =>
          rw [e] at h
          change max (w x p) (lstA st fn w n k (m ||| 2 ^ x) s' (p + 1)) ≤ g at h
          obtain ⟨l, l1, l2, l3⟩ := (lstA_le st fn w n hg k (m ||| 2 ^ x) s' (p + 1)).mp (by omega)
          refine ⟨x :: l, ?_, by rw [acc, e]; exact l2, ?_⟩
          · unfold exts
            rw [List.mem_flatMap]
            exact ⟨x, List.mem_range.mpr hx, by rw [if_neg c]; exact List.mem_map.mpr ⟨l, l1, rfl⟩⟩
          · show max (w x p) (mxW w (p + 1) l) ≤ g
            omega
    · intro ⟨l, l1, l2, l3⟩
      unfold exts at l1
      rw [List.mem_flatMap] at l1
      obtain ⟨x, hx, h⟩ := l1
      have hx := List.mem_range.mp hx
      refine ⟨x, hx, ?_⟩
      by_cases c : m.testBit x = true
      · rw [if_pos c] at h; exact absurd h List.not_mem_nil
      · rw [if_neg c, List.mem_map] at h
        obtain ⟨l', h1, rfl⟩ := h
        rw [if_neg c]
        rw [acc] at l2
        change max (w x p) (mxW w (p + 1) l') ≤ g at l3
        cases e : st s p x with
        | none => rw [e] at l2; exact Bool.noConfusion l2
        | some s' =>
          rw [e] at l2
          have := (lstA_le st fn w n hg k (m ||| 2 ^ x) s' (p + 1)).mpr ⟨l', h1, l2, by omega⟩
          show max (w x p) (lstA st fn w n k (m ||| 2 ^ x) s' (p + 1)) ≤ g
          omega
/-- steps within a bound -/
def stG {S : Type} (st : S → Nat → Nat → Option S) (w : Nat → Nat → Nat) (g : Nat) (s : S) (p x : Nat) : Option S := if w x p ≤ g then st s p x else none
theorem acc_stG {S : Type} (st : S → Nat → Nat → Option S) (fn : S → Bool) (w : Nat → Nat → Nat) (g : Nat) : ∀ l s p, acc (stG st w g) fn s p l = (acc st fn s p l && decide (mxW w p l ≤ g))
  | [], s, p => by
    show fn s = (fn s && decide (0 ≤ g))
    rw [decide_eq_true (Nat.zero_le g), Bool.and_true]
  | x :: l, s, p => by
    rw [acc, acc]
    unfold stG
    by_cases c : w x p ≤ g
    · rw [if_pos c]
      cases e : st s p x with
      | none => rfl
      | some s' =>
        show acc (stG st w g) fn s' (p + 1) l = (acc st fn s' (p + 1) l && decide (max (w x p) (mxW w (p + 1) l) ≤ g))
        rw [acc_stG st fn w g l s' (p + 1)]
        congr 1
        exact decide_eq_decide.mpr ⟨fun h => by omega, fun h => by omega⟩
    · rw [if_neg c]
      show false = (_ && decide (max (w x p) (mxW w (p + 1) l) ≤ g))
      rw [decide_eq_false (show ¬ max (w x p) (mxW w (p + 1) l) ≤ g by omega), Bool.and_false]
theorem find_range {α : Type} (q : α → Bool) (g : Nat → List α) {F : α} : ∀ m, ((List.range m).flatMap g).find? q = some F → ∃ x, x < m ∧ (g x).find? q = some F ∧ ∀ y, y < x → (g y).find? q = none
  | 0, h => by change none = some F at h; simp at h
  | m + 1, h => by
    rw [List.range_succ, List.flatMap_append, List.find?_append] at h
    cases e : ((List.range m).flatMap g).find? q with
    | some F' =>
      rw [e] at h
      have : F' = F := Option.some.inj h
      subst this
      obtain ⟨x, h1, h2, h3⟩ := find_range q g m e
      exact ⟨x, by omega, h2, h3⟩
    | none =>
      rw [e, List.flatMap_cons, List.flatMap_nil, List.append_nil] at h
      refine ⟨m, by omega, h, fun y hy => ?_⟩
      rw [List.find?_eq_none] at e ⊢
      intro x hx
      exact e x (List.mem_flatMap.mpr ⟨y, List.mem_range.mpr hy, hx⟩)
theorem find_hd {S : Type} (st : S → Nat → Nat → Option S) (fn : S → Bool) (n k m : Nat) (s : S) (p : Nat) {F : List Nat} (h : (exts n (k + 1) m).find? (acc st fn s p) = some F) : ∃ x F' s', F = x :: F' ∧ x < n ∧ ¬ m.testBit x = true ∧ st s p x = some s' ∧ (exts n k (m ||| 2 ^ x)).find? (acc st fn s' (p + 1)) = some F' ∧ ∀ y, y < x → ¬ m.testBit y = true → ∀ s'', st s p y = some s'' → ∀ l, l ∈ exts n k (m ||| 2 ^ y) → ¬ acc st fn s'' (p + 1) l = true := by
  unfold exts at h
  obtain ⟨x, h1, h2, h3⟩ := find_range _ _ n h
  by_cases c : m.testBit x = true
  · rw [if_pos c] at h2; change none = some F at h2; simp at h2
  rw [if_neg c, List.find?_map] at h2
  cases e : (exts n k (m ||| 2 ^ x)).find? (acc st fn s p ∘ List.cons x) with
  | none => rw [e] at h2; change none = some F at h2; simp at h2
  | some F' =>
    rw [e] at h2
    have hF : x :: F' = F := Option.some.inj h2
    cases e2 : st s p x with
    | none =>
      have := List.find?_some e
      change acc st fn s p (x :: F') = true at this
      rw [acc, e2] at this
      exact Bool.noConfusion this
    | some s' =>
      have hc : (acc st fn s p ∘ List.cons x) = acc st fn s' (p + 1) := by
        funext l
        show acc st fn s p (x :: l) = _
        rw [acc, e2]
      rw [hc] at e
      refine ⟨x, F', s', hF.symm, h1, c, e2, e, fun y hy cy s'' e3 l hl ha => ?_⟩
      have := h3 y hy
      rw [if_neg cy, List.find?_eq_none] at this
      refine this (y :: l) (List.mem_map.mpr ⟨l, hl, rfl⟩) ?_
      rw [acc, e3]
      exact ha
/-- the least so far, the first that is so -/
def fbS (ok : List Nat → Bool) (wr : List Nat → Nat) : List (List Nat) → Nat → Option (List Nat) → Nat → Nat × Option (List Nat) × Nat
  | [], c, b, m => (c, b, m)
  | l :: r, c, b, m => if ok l = true then fbS ok wr r (c + 1) (if m ≤ wr l then b else some l) (if m ≤ wr l then m else wr l) else fbS ok wr r c b m
theorem fbS_spec (ok : List Nat → Bool) (wr : List Nat → Nat) : ∀ (r : List (List Nat)) (c : Nat) (b : Option (List Nat)) (m : Nat), (fbS ok wr r c b m).1 = c + r.countP ok ∧ (fbS ok wr r c b m).2.2 ≤ m ∧ (∀ g, g < m → ((fbS ok wr r c b m).2.2 ≤ g ↔ ∃ l, l ∈ r ∧ ok l = true ∧ wr l ≤ g)) ∧ (fbS ok wr r c b m).2.1 = if (fbS ok wr r c b m).2.2 < m then r.find? (fun l => ok l && decide (wr l ≤ (fbS ok wr r c b m).2.2)) else b
  | [], c, b, m => ⟨rfl, Nat.le_refl _, fun g hg => ⟨fun h => by change m ≤ g at h; omega, fun ⟨l, h, _⟩ => absurd h List.not_mem_nil⟩, by
      show b = if m < m then _ else b
      rw [if_neg (Nat.lt_irrefl m)]⟩
  | l :: r, c, b, m => by
    by_cases k : ok l = true
    · by_cases d : m ≤ wr l
      · have e : fbS ok wr (l :: r) c b m = fbS ok wr r (c + 1) b m := by
          show (if ok l = true then _ else _) = _
          rw [if_pos k, if_pos d, if_pos d]
        rw [e]
        obtain ⟨h1, h2, h3, h4⟩ := fbS_spec ok wr r (c + 1) b m
        refine ⟨by rw [h1, List.countP_cons, if_pos k]; omega, h2, fun g hg => ?_, ?_⟩
        · rw [h3 g hg]
          exact ⟨fun ⟨x, x1, x2⟩ => ⟨x, List.mem_cons_of_mem _ x1, x2⟩, fun ⟨x, x1, x2, x3⟩ => by
            rcases List.mem_cons.mp x1 with q | q
            · rw [q] at x3; omega
            · exact ⟨x, q, x2, x3⟩⟩
        · rw [h4]
          by_cases f : (fbS ok wr r (c + 1) b m).2.2 < m
          · rw [if_pos f, if_pos f, List.find?_cons, k, decide_eq_false (show ¬ wr l ≤ (fbS ok wr r (c + 1) b m).2.2 by omega)]
            rfl
          · rw [if_neg f, if_neg f]
      · have e : fbS ok wr (l :: r) c b m = fbS ok wr r (c + 1) (some l) (wr l) := by
          show (if ok l = true then _ else _) = _
          rw [if_pos k, if_neg d, if_neg d]
        rw [e]
        obtain ⟨h1, h2, h3, h4⟩ := fbS_spec ok wr r (c + 1) (some l) (wr l)
        refine ⟨by rw [h1, List.countP_cons, if_pos k]; omega, by omega, fun g hg => ?_, ?_⟩
        · by_cases f : g < wr l
          · rw [h3 g f]
            exact ⟨fun ⟨x, x1, x2⟩ => ⟨x, List.mem_cons_of_mem _ x1, x2⟩, fun ⟨x, x1, x2, x3⟩ => by
              rcases List.mem_cons.mp x1 with q | q
              · rw [q] at x3; omega
              · exact ⟨x, q, x2, x3⟩⟩
          · exact ⟨fun _ => ⟨l, List.mem_cons_self, k, by omega⟩, fun _ => by omega⟩
        · rw [if_pos (by omega), h4]
          by_cases f : (fbS ok wr r (c + 1) (some l) (wr l)).2.2 < wr l
          · rw [if_pos f, List.find?_cons, k, decide_eq_false (show ¬ wr l ≤ (fbS ok wr r (c + 1) (some l) (wr l)).2.2 by omega)]
            rfl
          · rw [if_neg f, List.find?_cons, k, decide_eq_true (show wr l ≤ (fbS ok wr r (c + 1) (some l) (wr l)).2.2 by omega)]
            rfl
    · have e : fbS ok wr (l :: r) c b m = fbS ok wr r c b m := by
        show (if ok l = true then _ else _) = _
        rw [if_neg k]
      rw [e]
      have kf : ok l = false := by cases q : ok l; rfl; exact absurd q k
      obtain ⟨h1, h2, h3, h4⟩ := fbS_spec ok wr r c b m
      refine ⟨by rw [h1, List.countP_cons, if_neg k]; omega, h2, fun g hg => ?_, ?_⟩
      · rw [h3 g hg]
        exact ⟨fun ⟨x, x1, x2⟩ => ⟨x, List.mem_cons_of_mem _ x1, x2⟩, fun ⟨x, x1, x2, x3⟩ => by
          rcases List.mem_cons.mp x1 with q | q
          · rw [q] at x2; exact absurd x2 k
          · exact ⟨x, q, x2, x3⟩⟩
      · rw [h4]
        by_cases f : (fbS ok wr r c b m).2.2 < m
        · rw [if_pos f, if_pos f, List.find?_cons, kf]
          rfl
        · rw [if_neg f, if_neg f]
