set_option maxRecDepth 8000
/-! ===== a draft, as numbers ===== -/
abbrev zpc (P : zM) (l : Nat) : Nat := P 14 l
abbrev zprw (P : zM) (k : Nat) : Nat := P 15 k
abbrev zprs (P : zM) (q : Nat) : Nat := P 13 q
abbrev zprl (P : zM) : Nat := P 0 3
abbrev zST : Type := List (Nat × List Nat)
def dFl : zST → List Nat → List Nat
  | [], c => c
  | (_, s) :: r, c => dFl r (s ++ c)
def dHd : zST → Nat
  | [] => 0
  | (q, _) :: _ => q + 1
def dMem (q : Nat) : zST → Bool
  | [] => false
  | (x, _) :: r => x == q || dMem q r
def dRp (P : zM) : zST → Nat
  | [] => 1
  | (q, _) :: r => zpte P q * dRp P r
def dOp (P : zM) (l : Nat) : zST → Nat
  | [] => 1
  | (q, _) :: r => (if zpfi P q ≤ l then zpte P q else 1) * dOp P l r
def dSk (P : zM) : zST → Prop
  | [] => True
  | (q, _) :: r => q < zpq P ∧ zpou P q = dHd r ∧ dHd r ≤ q ∧ dSk P r
def dSm (f : Nat → Nat) : List Nat → Nat
  | [] => 0
  | x :: r => f x + dSm f r
def dBl (P : zM) : zST → List Nat → Nat → Prop
  | [], cur, hi => ∀ f : Nat → Nat, dSm f cur = zsm (fun l => zpc P l * f l) hi
  | (q, sv) :: r, cur, hi => zpfi P q ≤ hi ∧ (∀ f : Nat → Nat, dSm f cur + zsm (fun l => zpc P l * f l) (zpfi P q) = zsm (fun l => zpc P l * f l) hi) ∧ dBl P r sv (zpfi P q)
def dRep : Nat → List Nat → List Nat
  | 0, _ => []
  | t + 1, c => c ++ dRep t c
theorem dFl_a : ∀ (st : zST) (a b : List Nat), dFl st (a ++ b) = dFl st a ++ b := by
  intro st
  induction st with
  | nil => intro a b; rfl
  | cons x r ih =>
    intro a b
    show dFl r (x.2 ++ (a ++ b)) = dFl r (x.2 ++ a) ++ b
    rw [← List.append_assoc, ih]
theorem dSm_a (f : Nat → Nat) : ∀ a b, dSm f (a ++ b) = dSm f a + dSm f b := by
  intro a
  induction a with
  | nil => intro b; show dSm f b = 0 + dSm f b; omega
  | cons x r ih =>
    intro b
    show f x + dSm f (r ++ b) = f x + dSm f r + dSm f b
    rw [ih]
    omega
theorem dSm_r (f : Nat → Nat) (c : List Nat) : ∀ t, dSm f (dRep t c) = t * dSm f c := by
  intro t
  induction t with
  | zero => show 0 = 0 * dSm f c; omega
  | succ t ih =>
    show dSm f (c ++ dRep t c) = (t + 1) * dSm f c
    rw [dSm_a, ih, Nat.succ_mul]
    omega
theorem dSm_1 : ∀ c : List Nat, dSm (fun _ => 1) c = c.length := by
  intro c
  induction c with
  | nil => rfl
  | cons x r ih =>
    show 1 + dSm (fun _ => 1) r = r.length + 1
    omega
theorem dRep_l (c : List Nat) : ∀ t, (dRep t c).length = t * c.length := by
  intro t
  rw [← dSm_1, dSm_r, dSm_1]
theorem dRep_s (c : List Nat) : ∀ t, dRep (t + 1) c = dRep t c ++ c := by
  intro t
  induction t with
  | zero => show c ++ [] = [] ++ c; simp
  | succ t ih =>
    show c ++ dRep (t + 1) c = c ++ dRep t c ++ c
    rw [ih, List.append_assoc]
theorem dRep_m {c : List Nat} {x : Nat} : ∀ t, x ∈ dRep t c → x ∈ c := by
  intro t
  induction t with
  | zero => intro h; cases h
  | succ t ih =>
    intro h
    rcases List.mem_append.mp h with q | q
    · exact q
    · exact ih q
/-- chains -/
theorem ch_d {ou ou' : Nat → Nat} {Q : Nat} (h : ∀ j, j < Q → ou' j = ou j ∧ ou j ≤ j) : ∀ f k, k ≤ Q → zdp ou' f k = zdp ou f k := by
  intro f
  induction f with
  | zero => intro k _; rfl
  | succ f ih =>
    intro k hk
    rw [zdp, zdp]
    by_cases h0 : k = 0
    · rw [if_pos h0, if_pos h0]
    · obtain ⟨h1, h2⟩ := h (k - 1) (by omega)
      rw [if_neg h0, if_neg h0, h1, ih _ (by omega)]
theorem ch_p {ou ou' te te' : Nat → Nat} {Q : Nat} (h : ∀ j, j < Q → ou' j = ou j ∧ ou j ≤ j) (g : ∀ j, j < Q → te' j = te j) : ∀ f k, k ≤ Q → zpr ou' te' f k = zpr ou te f k := by
  intro f
  induction f with
  | zero => intro k _; rfl
  | succ f ih =>
    intro k hk
    rw [zpr, zpr]
    by_cases h0 : k = 0
    · rw [if_pos h0, if_pos h0]
    · obtain ⟨h1, h2⟩ := h (k - 1) (by omega)
      rw [if_neg h0, if_neg h0, h1, g (k - 1) (by omega), ih _ (by omega)]
theorem ch_w {ou ou' : Nat → Nat} {Q q : Nat} (h : ∀ j, j < Q → ou' j = ou j ∧ ou j ≤ j) : ∀ f k, k ≤ Q → zwi ou' q f k = zwi ou q f k := by
  intro f
  induction f with
  | zero => intro k _; rfl
  | succ f ih =>
    intro k hk
    rw [zwi, zwi]
    by_cases h0 : k = 0
    · rw [if_pos h0, if_pos h0]
    · obtain ⟨h1, h2⟩ := h (k - 1) (by omega)
      rw [if_neg h0, if_neg h0, h1, ih _ (by omega)]
theorem ch_no {ou : Nat → Nat} {Q : Nat} (h : ∀ j, j < Q → ou j ≤ j) : ∀ f k, k ≤ Q → zwi ou Q f k = false := by
  intro f
  induction f with
  | zero => intro k _; rfl
  | succ f ih =>
    intro k hk
    rw [zwi]
    by_cases h0 : k = 0
    · rw [if_pos h0]
    · have h2 := h (k - 1) (by omega)
      rw [if_neg h0, ih _ (by omega), Bool.or_false]
      exact beq_eq_false_iff_ne.mpr (by omega)
theorem st_d {P : zM} : ∀ (st : zST) f, dSk P st → st.length ≤ f → zdp (zpou P) f (dHd st) = st.length := by
  intro st
  induction st with
  | nil =>
    intro f _ _
    cases f with
    | zero => rfl
    | succ f => rw [zdp]; rfl
  | cons x r ih =>
    intro f h hf
    rw [List.length_cons] at hf ⊢
    cases f with
    | zero => omega
    | succ f =>
      obtain ⟨h1, h2, h3, h4⟩ := h
      have h2' : zpou P (x.1 + 1 - 1) = dHd r := h2
      rw [zdp, show dHd (x :: r) = x.1 + 1 from rfl, if_neg (by omega), h2', ih f h4 (by omega)]
theorem st_p {P : zM} : ∀ (st : zST) f, dSk P st → st.length ≤ f → zpr (zpou P) (zpte P) f (dHd st) = dRp P st := by
  intro st
  induction st with
  | nil =>
    intro f _ _
    cases f with
    | zero => rfl
    | succ f => rw [zpr]; rfl
  | cons x r ih =>
    intro f h hf
    rw [List.length_cons] at hf
    cases f with
    | zero => omega
    | succ f =>
      obtain ⟨h1, h2, h3, h4⟩ := h
      have h2' : zpou P (x.1 + 1 - 1) = dHd r := h2
      rw [zpr, show dHd (x :: r) = x.1 + 1 from rfl, if_neg (by omega), h2', ih f h4 (by omega)]
      rfl
theorem st_w {P : zM} {q : Nat} : ∀ (st : zST) f, dSk P st → st.length ≤ f → zwi (zpou P) q f (dHd st) = dMem q st := by
  intro st
  induction st with
  | nil =>
    intro f _ _
    cases f with
    | zero => rfl
    | succ f => rw [zwi]; rfl
  | cons x r ih =>
    intro f h hf
    rw [List.length_cons] at hf
    cases f with
    | zero => omega
    | succ f =>
      obtain ⟨h1, h2, h3, h4⟩ := h
      have h2' : zpou P (x.1 + 1 - 1) = dHd r := h2
      rw [zwi, show dHd (x :: r) = x.1 + 1 from rfl, if_neg (by omega), h2', ih f h4 (by omega)]
      show (x.1 + 1 == q + 1 || dMem q r) = (x.1 == q || dMem q r)
      simp
theorem dMem_lt {P : zM} {q : Nat} : ∀ st : zST, dSk P st → dMem q st = true → q + 1 ≤ dHd st := by
  intro st
  induction st with
  | nil => intro _ h; cases h
  | cons x r ih =>
    intro h hm
    obtain ⟨h1, h2, h3, h4⟩ := h
    show q + 1 ≤ x.1 + 1
    have hm' : (x.1 == q || dMem q r) = true := hm
    rw [Bool.or_eq_true] at hm'
    rcases hm' with e | e
    · have := beq_iff_eq.mp e
      omega
    · have := ih h4 e
      omega
theorem dHd_le {P : zM} {st : zST} (h : dSk P st) : dHd st ≤ zpq P := by
  cases st with
  | nil => exact Nat.zero_le _
  | cons x r => exact h.1
theorem dSk_cg {P P' : zM} (hq : zpq P ≤ zpq P') (h : ∀ q, q < zpq P → zpou P' q = zpou P q) : ∀ st, dSk P st → dSk P' st := by
  intro st
  induction st with
  | nil => intro _; trivial
  | cons x r ih =>
    rintro ⟨h1, h2, h3, h4⟩
    exact ⟨Nat.lt_of_lt_of_le h1 hq, (h _ h1).trans h2, h3, ih h4⟩
theorem dRp_cg {P P' : zM} (h : ∀ q, q < zpq P → zpte P' q = zpte P q) : ∀ st, dSk P st → dRp P' st = dRp P st := by
  intro st
  induction st with
  | nil => intro _; rfl
  | cons x r ih =>
    rintro ⟨h1, h2, h3, h4⟩
    show zpte P' x.1 * dRp P' r = zpte P x.1 * dRp P r
    rw [h _ h1, ih h4]
theorem dOp_cg {P P' : zM} {l : Nat} (h : ∀ q, q < zpq P → zpte P' q = zpte P q ∧ zpfi P' q = zpfi P q) : ∀ st, dSk P st → dOp P' l st = dOp P l st := by
  intro st
  induction st with
  | nil => intro _; rfl
  | cons x r ih =>
    rintro ⟨h1, h2, h3, h4⟩
    show (if zpfi P' x.1 ≤ l then zpte P' x.1 else 1) * dOp P' l r = (if zpfi P x.1 ≤ l then zpte P x.1 else 1) * dOp P l r
    rw [(h _ h1).1, (h _ h1).2, ih h4]
theorem dOp_all {P : zM} {l : Nat} (h : ∀ q, q < zpq P → zpfi P q ≤ l) : ∀ st, dSk P st → dOp P l st = dRp P st := by
  intro st
  induction st with
  | nil => intro _; rfl
  | cons x r ih =>
    rintro ⟨h1, h2, h3, h4⟩
    show (if zpfi P x.1 ≤ l then zpte P x.1 else 1) * dOp P l r = zpte P x.1 * dRp P r
    rw [if_pos (h _ h1), ih h4]
theorem dRp_le {P : zM} (h : ∀ q, q < zpq P → 1 ≤ zpte P q ∧ zpte P q ≤ 99) : ∀ st, dSk P st → 1 ≤ dRp P st ∧ dRp P st ≤ 99 ^ st.length := by
  intro st
  induction st with
  | nil => intro _; exact ⟨Nat.le_refl _, Nat.le_refl _⟩
  | cons x r ih =>
    rintro ⟨h1, h2, h3, h4⟩
    obtain ⟨a, b⟩ := h _ h1
    obtain ⟨c, d⟩ := ih h4
    refine ⟨Nat.mul_le_mul a c, ?_⟩
    rw [List.length_cons, Nat.pow_succ, Nat.mul_comm]
    exact Nat.mul_le_mul b d
theorem dBl_cg {P P' : zM} : ∀ (st : zST) cur hi, dSk P st → (∀ q, q < zpq P → zpfi P' q = zpfi P q) → (∀ l, l < hi → zpc P' l = zpc P l) → dBl P st cur hi → dBl P' st cur hi := by
  intro st
  induction st with
  | nil =>
    intro cur hi _ _ hc h f
    rw [h f]
    exact zsm_congr fun l hl => by rw [hc l hl]
  | cons x r ih =>
    rintro cur hi ⟨h1, h2, h3, h4⟩ hf hc ⟨a, b, c⟩
    have e := hf _ h1
    have e' : zpfi P' x.1 = zpfi P x.1 := e
    refine ⟨?_, fun f => ?_, ?_⟩
    · show zpfi P' x.1 ≤ hi
      rw [e']; exact a
    · have s1 : zsm (fun l => zpc P' l * f l) (zpfi P x.1) = zsm (fun l => zpc P l * f l) (zpfi P x.1) := zsm_congr fun l hl => by rw [hc l (Nat.lt_of_lt_of_le hl a)]
      have s2 : zsm (fun l => zpc P' l * f l) hi = zsm (fun l => zpc P l * f l) hi := zsm_congr fun l hl => by rw [hc l hl]
      show dSm f cur + zsm (fun l => zpc P' l * f l) (zpfi P' x.1) = _
      rw [e', s1, s2]
      exact b f
    · show dBl P' r x.2 (zpfi P' x.1)
      rw [e']
      exact ih x.2 _ h4 hf (fun l hl => hc l (Nat.lt_of_lt_of_le hl a)) c
/-- one place of the table anew -/
def zu (P : zM) (a b v : Nat) : zM := fun x y => if x = a ∧ y = b then v else P x y
theorem zu_y {P : zM} {a b v : Nat} : zu P a b v a b = v := if_pos ⟨rfl, rfl⟩
theorem zu_n {P : zM} {a b v x y : Nat} (h : ¬ (x = a ∧ y = b)) : zu P a b v x y = P x y := if_neg h
def dEv (P : zM) (n : Nat) (ev : Nat → Nat) : zM := fun a k => if a = 20 + n then ev k else P a k
theorem dEv_y {P : zM} {n k : Nat} {ev : Nat → Nat} : dEv P n ev (20 + n) k = ev k := if_pos rfl
theorem dEv_n {P : zM} {n a k : Nat} {ev : Nat → Nat} (h : ¬ a = 20 + n) : dEv P n ev a k = P a k := if_neg h
def dLn (P : zM) (st : zST) (t : Nat) (ev : Nat → Nat) : zM := dEv (zu (zu (zu (zu (zu (zu (zu (zu P 0 0 (zpn P + 1)) 0 3 (zprl P + 1)) 1 (zpn P) t) 2 (zpn P) (dRp P st)) 3 (zpn P) st.length) 4 (zpn P) (dHd st)) 14 (zpn P) 1) 15 (zprl P) (zpn P)) (zpn P) ev
def dLp (P : zM) (st : zST) (t : Nat) : zM := zu (zu (zu (zu (zu (zu (zu (zu (zu (zu P 0 1 (zpq P + 1)) 0 3 (zprl P + 1)) 5 (zpq P) t) 6 (zpq P) st.length) 7 (zpq P) (dRp P st)) 8 (zpq P) (zpn P)) 9 (zpq P) (zpn P)) 10 (zpq P) (dHd st)) 13 (zpq P) (zprl P)) 15 (zprl P) (100 + zpq P)
def dCc (P : zM) (q : Nat) : zM := fun a k => if a = 14 ∧ zpfi P q ≤ k then zpte P q * P 14 k else P a k
theorem dCc_n {P : zM} {q a k : Nat} (h : ¬ a = 14) : dCc P q a k = P a k := if_neg fun x => h x.1
theorem dCc_y {P : zM} {q k : Nat} : dCc P q 14 k = if zpfi P q ≤ k then zpte P q * P 14 k else P 14 k := by
  unfold dCc
  by_cases h : zpfi P q ≤ k
  · rw [if_pos ⟨rfl, h⟩, if_pos h]
  · rw [if_neg (fun x => h x.2), if_neg h]
def dCl (P : zM) (q : Nat) : zM := zu (zu (zu (dCc P q) 0 3 (zprl P + 1)) 9 q (zpn P)) 15 (zprl P) (200 + q)
def wL (P : zM) (st : zST) (l : Nat) : Prop := 1 ≤ zptk P l ∧ zptk P l ≤ 20 ∧ 1 ≤ zptm P l ∧ zptm P l ≤ 96059601 ∧ zpar P l ≤ zpq P ∧ (∀ e, e < 8 → zpev P l e ≤ 99) ∧ zpin P l = zdp (zpou P) 41 (zpar P l) ∧ zptm P l = zpr (zpou P) (zpte P) 41 (zpar P l) ∧ 1 ≤ zpc P l ∧ zptm P l = zpc P l * dOp P l st ∧ ∀ q, q < zpq P → (zwi (zpou P) q 41 (zpar P l) = true ↔ zpfi P q ≤ l ∧ (dMem q st = true ∨ l < zpbe P q))
def wQ (P : zM) (q : Nat) : Prop := 1 ≤ zpte P q ∧ zpte P q ≤ 99 ∧ zpou P q ≤ q ∧ zpfi P q ≤ zpbe P q ∧ zpbe P q ≤ zpn P ∧ zpad P q = zdp (zpou P) 41 (zpou P q) ∧ zpco P q = zpr (zpou P) (zpte P) 41 (zpou P q) ∧ zpco P q ≤ 970299
def wD (P : zM) (st : zST) (cur : List Nat) : Prop := zpn P ≤ 16 ∧ zpq P ≤ 40 ∧ st.length ≤ 4 ∧ zprl P + st.length = zpn P + 2 * zpq P ∧ (∀ l, l < zpn P → wL P st l) ∧ (∀ q, q < zpq P → wQ P q) ∧ dSk P st ∧ dBl P st cur (zpn P) ∧ ∀ x, x ∈ dFl st cur → x < zpn P
