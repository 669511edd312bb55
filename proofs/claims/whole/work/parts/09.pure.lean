/-! What the class's methods compute, as functions: searches, Euclid's way over longs, lowest terms. -/
/-- the first of n numbers from i on that f takes -/
def fnd (f : Nat → Prop) [DecidablePred f] : Nat → Nat → Option Nat
  | 0, _ => none
  | n + 1, i => if f i then some i else fnd f n (i + 1)
theorem fnd_t {f : Nat → Prop} [DecidablePred f] {n i : Nat} (h : f i) : fnd f (n + 1) i = some i := if_pos h
theorem fnd_f {f : Nat → Prop} [DecidablePred f] {n i : Nat} (h : ¬ f i) : fnd f (n + 1) i = fnd f n (i + 1) := if_neg h
theorem fnd_some {f : Nat → Prop} [DecidablePred f] : ∀ {n i k : Nat}, fnd f n i = some k → i ≤ k ∧ k < i + n ∧ f k ∧ ∀ j, i ≤ j → j < k → ¬ f j
  | 0, _, _, h => by cases h
  | n + 1, i, k, h => by
    by_cases hf : f i
    · rw [fnd_t hf] at h
      cases h
      exact ⟨Nat.le_refl _, by omega, hf, fun j h1 h2 => absurd h2 (by omega)⟩
    · rw [fnd_f hf] at h
      obtain ⟨h1, h2, h3, h4⟩ := fnd_some h
      refine ⟨by omega, by omega, h3, fun j g1 g2 => ?_⟩
      by_cases hj : j = i
      · subst hj
        exact hf
      · exact h4 j (by omega) g2
theorem fnd_none {f : Nat → Prop} [DecidablePred f] : ∀ {n i : Nat}, fnd f n i = none → ∀ j, i ≤ j → j < i + n → ¬ f j
  | 0, _, _ => fun j h1 h2 => absurd h2 (by omega)
  | n + 1, i, h => by
    by_cases hf : f i
    · rw [fnd_t hf] at h
      cases h
    · rw [fnd_f hf] at h
      intro j g1 g2
      by_cases hj : j = i
      · subst hj
        exact hf
      · exact fnd_none h j (by omega) (by omega)
/-- an answer that is a number, or -1 -/
def enc : Option Nat → Int32
  | none => -1
  | some k => nI k
def bz (b : Bool) : Int32 := if b then nI 1 else nI 0
def eu64 : Nat → Int64 → Int64 → Int64
  | 0, b, _ => b
  | n + 1, b, s => if s = 0 then b else eu64 n s (b - b / s * s)
def ab64 (x : Int64) : Int64 := if 0 < x then x else -x
def cd64 (a b : Int64) : Int64 := eu64 100 (ab64 a) (ab64 b)
def lp64 (a b : Int64) (part : Int32) : Int64 := if 1 < cd64 a b then (if part = 0 then a else b) / cd64 a b else (if part = 0 then a else b)
/-- the row that decides unknown u -/
def rdec (AN : Nat → Nat → Nat) (d u : Nat) : Option Nat := fnd (fun k => AN 5 k = u) d 0
/-- the k-th free unknown, p having been passed -/
def fre (AN : Nat → Nat → Nat) (d : Nat) (k : Int32) : Nat → Nat → Nat → Option Nat
  | 0, _, _ => none
  | n + 1, u, p => if rdec AN d u = none then (if nI p = k then some u else fre AN d k n (u + 1) (p + 1)) else fre AN d k n (u + 1) p
def ppart (AN : Nat → Nat → Nat) (AL : Nat → Nat → Int64) (d w u : Nat) (part : Int32) : Int64 := match rdec AN d u with
  | none => lp64 0 1 part
  | some k => lp64 (AL (k + 11) w) (AL (k + 11) u) part
def dpart (AN : Nat → Nat → Nat) (AL : Nat → Nat → Int64) (d ch u : Nat) (part : Int32) : Int64 := match rdec AN d u with
  | none => lp64 (if u = ch then 1 else 0) 1 part
  | some k => lp64 (-AL (k + 11) ch) (AL (k + 11) u) part
