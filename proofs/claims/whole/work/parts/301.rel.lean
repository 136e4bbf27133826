/-! ===== one mathematical state behind both sides ===== -/
abbrev zI : Type := Nat → Nat → Int32
abbrev zM : Type := Nat → Nat → Nat
abbrev zpn (P : zM) : Nat := P 0 0
abbrev zpq (P : zM) : Nat := P 0 1
abbrev zps (P : zM) : Nat := P 0 2
abbrev zptk (P : zM) (l : Nat) : Nat := P 1 l
abbrev zptm (P : zM) (l : Nat) : Nat := P 2 l
abbrev zpin (P : zM) (l : Nat) : Nat := P 3 l
abbrev zpar (P : zM) (l : Nat) : Nat := P 4 l
abbrev zpte (P : zM) (q : Nat) : Nat := P 5 q
abbrev zpad (P : zM) (q : Nat) : Nat := P 6 q
abbrev zpco (P : zM) (q : Nat) : Nat := P 7 q
abbrev zpfi (P : zM) (q : Nat) : Nat := P 8 q
abbrev zpbe (P : zM) (q : Nat) : Nat := P 9 q
abbrev zpou (P : zM) (q : Nat) : Nat := P 10 q
abbrev zplo (P : zM) (i : Nat) : Nat := P 11 i
abbrev zptt (P : zM) (i : Nat) : Nat := P 12 i
abbrev zpev (P : zM) (l e : Nat) : Nat := P (20 + l) e
/-- a loop's number, or none -/
def zco (k : Nat) : Int32 := if k = 0 then -4 else nI (k - 1)
/-- along the loops around: how many, their product, whether one is among them -/
def zdp (ou : Nat → Nat) : Nat → Nat → Nat
  | 0, _ => 0
  | f + 1, k => if k = 0 then 0 else zdp ou f (ou (k - 1)) + 1
def zpr (ou te : Nat → Nat) : Nat → Nat → Nat
  | 0, _ => 1
  | f + 1, k => if k = 0 then 1 else te (k - 1) * zpr ou te f (ou (k - 1))
def zwi (ou : Nat → Nat) (q : Nat) : Nat → Nat → Bool
  | 0, _ => false
  | f + 1, k => if k = 0 then false else k == q + 1 || zwi ou q f (ou (k - 1))
/-- the class's cells of a program at p -/
def cPr (I : zI) (p : Nat) (P : zM) : Prop :=
  I p 0 = nI (zpn P) ∧ I p 5 = nI (zpq P) ∧ I p 15 = nI (zps P) ∧
  (∀ l, l < zpn P → I (p + 1) l = nI (zptk P l) ∧ I (p + 2) l = nI (zptm P l) ∧ I (p + 3) l = nI (zpin P l) ∧ ∀ e, e < 8 → I ((p + 4) + 1 + l) e = nI (zpev P l e)) ∧
  (∀ q, q < zpq P → I (p + 21) q = nI (zpte P q) ∧ I (p + 22) q = nI (zpad P q) ∧ I (p + 23) q = nI (zpco P q) ∧ I (p + 24) q = nI (zpfi P q) ∧ I (p + 25) q = nI (zpbe P q)) ∧
  (∀ i, i < zps P → I (p + 28) i = nI (zplo P i)) ∧ ∀ i, i ≤ zps P → I (p + 29) i = nI (zptt P i)
/-- the reference's -/
def mPr (I : zI) (P : zM) : Prop :=
  I 105 0 = nI (zpn P) ∧ I 105 4 = nI (zpq P) ∧ I 105 7 = nI (zps P) ∧ I 105 10 = nI (zptt P (zps P)) ∧
  (∀ l, l < zpn P → I 106 l = nI (zptk P l) ∧ I 112 l = nI (zptm P l) ∧ I 108 l = zco (zpar P l) ∧ ∀ e, e < 8 → I 107 (8 * l + e) = nI (zpev P l e)) ∧
  (∀ q, q < zpq P → I 109 q = nI (zpte P q) ∧ I 110 q = zco (zpou P q)) ∧
  ∀ i, i < zps P → I 111 i = nI (zplo P i)
/-- what a program is -/
def wPr (P : zM) : Prop :=
  zpn P ≤ 16 ∧ zpq P ≤ 40 ∧ zps P ≤ 6000 ∧
  (∀ l, l < zpn P → 1 ≤ zptk P l ∧ zptk P l ≤ 20 ∧ 1 ≤ zptm P l ∧ zpar P l ≤ zpq P ∧ (∀ e, e < 8 → zpev P l e ≤ 99) ∧ zpin P l = zdp (zpou P) 41 (zpar P l) ∧ zptm P l = zpr (zpou P) (zpte P) 41 (zpar P l) ∧ ∀ q, q < zpq P → (zwi (zpou P) q 41 (zpar P l) = true ↔ zpfi P q ≤ l ∧ l < zpbe P q)) ∧
  (∀ q, q < zpq P → 1 ≤ zpte P q ∧ zpte P q ≤ 99 ∧ zpou P q ≤ q ∧ zpfi P q ≤ zpbe P q ∧ zpbe P q ≤ zpn P ∧ zpad P q = zdp (zpou P) 41 (zpou P q) ∧ zpco P q = zpr (zpou P) (zpte P) 41 (zpou P q) ∧ zpco P q ≤ 970299) ∧
  (∀ i, i < zps P → zplo P i < zpn P) ∧ zptt P 0 = 0 ∧ (∀ i, i < zps P → zptt P (i + 1) = zptt P i + zptk P (zplo P i)) ∧
  ∀ f : Nat → Nat, zsm (fun i => f (zplo P i)) (zps P) = zsm (fun l => zptm P l * f l) (zpn P)
def rTape (I : zI) : Prop := ∃ n, n ≤ 320 ∧ I 1 1 = nI n ∧ I 105 25 = nI n ∧ ∀ j, j < n → ∃ b, b < 256 ∧ I 121 j = nI b ∧ I 2 j = (nI b).toInt8.toInt32
def rFault (I : zI) : Prop := ∃ f, f ≤ 6 ∧ I 0 11 = nI f ∧ I 105 30 = nI f
def rRefs (R : Nat → Nat → Nat) : Prop := (R 0 1 = 3 ∧ R 0 2 = 33) ∨ (R 0 1 = 33 ∧ R 0 2 = 3)
def rProg (σ : zS) : Prop := ∃ P, wPr P ∧ cPr σ.1 (σ.2.2 0 1) P ∧ mPr σ.1 P
def rKept (I : zI) : Prop := ∀ l e, l < 16 → e < 8 → ∃ k, k ≤ 594000 ∧ I (65 + 1 + l) e = nI k ∧ I 124 (8 * l + e) = nI k
def rCnt (I : zI) : Prop := ∃ k, 1 ≤ k ∧ k ≤ 4 ∧ I 82 0 = nI k ∧ I 105 36 = nI k ∧ ∀ c, c < 4 → (∃ m, m < 256 ∧ I 83 c = nI m ∧ I 125 c = nI m) ∧ ∃ w, 2 ≤ w ∧ w ≤ 16 ∧ I 84 c = nI w ∧ I 126 c = nI w
def rRuns (I : zI) : Prop := ∃ n, n ≤ 12 ∧ I 92 0 = nI n ∧ I 105 49 = nI n ∧ ∀ i, i < n → I 93 i = I 131 i ∧ I 94 i = I 132 i ∧ I 95 i = I 133 i
def rSheet (I : zI) : Prop := ∀ k, k < 4 → (I 134 k = -4 ∧ I 99 k = -1) ∨ ∃ ln sz, ln ≤ 2 ∧ sz ≤ 40 ∧ I 134 k = nI ln ∧ I 98 k = nI ln ∧ I 135 k = nI sz ∧ I 99 k = nI sz ∧ ∀ i, i < 40 → I (100 + 1 + k) i = I 136 (40 * k + i)
