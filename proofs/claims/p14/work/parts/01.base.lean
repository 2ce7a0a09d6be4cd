/-! rows of the kit pasted (pk_, bt, b_, nf_), then the pure rows of this claim: bits, the pending set, cleared and shifted arrays -/
def bt (x : Int32) (i : Nat) : Bool := x.toBitVec.getLsbD i
theorem b_ext {x y : Int32} (h : ∀ i, i < 32 → bt x i = bt y i) : x = y := Int32.toBitVec_inj.mp (BitVec.eq_of_getLsbD_eq (fun i hi => h i hi))
theorem b_or (x y : Int32) (i : Nat) : bt (x ||| y) i = (bt x i || bt y i) := by unfold bt; rw [Int32.toBitVec_or, BitVec.getLsbD_or]
theorem b_and (x y : Int32) (i : Nat) : bt (x &&& y) i = (bt x i && bt y i) := by unfold bt; rw [Int32.toBitVec_and, BitVec.getLsbD_and]
theorem b_xor (x y : Int32) (i : Nat) : bt (x ^^^ y) i = (bt x i ^^ bt y i) := by unfold bt; rw [Int32.toBitVec_xor, BitVec.getLsbD_xor]
theorem b_big {x : Int32} {i : Nat} (h : 32 ≤ i) : bt x i = false := BitVec.getLsbD_of_ge _ _ h
theorem b_m1 : ∀ i, i < 32 → bt (-1) i = true := by decide +kernel
theorem b_0 (i : Nat) : bt 0 i = false := BitVec.getLsbD_zero
theorem nf_sh : ∀ l, l < 32 → ((1 : Int32) <<< (nI l &&& 31)).toBitVec = BitVec.twoPow 32 l := by decide +kernel
theorem nf_tp : ∀ l, l < 32 → BitVec.twoPow 32 l ≠ 0#32 := by decide +kernel
theorem sk_bit {l : Nat} (hl : l < 32) (i : Nat) : bt ((1 : Int32) <<< (nI l &&& 31)) i = decide (i = l) := by
  unfold bt
  rw [nf_sh l hl, BitVec.getLsbD_twoPow, decide_eq_true hl, Bool.true_and]
  exact decide_eq_decide.mpr ⟨Eq.symm, Eq.symm⟩
theorem sk_and0 {x : Int32} {l : Nat} (hl : l < 32) : x &&& ((1 : Int32) <<< (nI l &&& 31)) = 0 ↔ bt x l = false := by
  constructor
  · intro h
    have e : bt (x &&& ((1 : Int32) <<< (nI l &&& 31))) l = bt 0 l := by rw [h]
    rw [b_and, sk_bit hl, b_0] at e
    simpa using e
  · intro h
    apply b_ext
    intro i _
    rw [b_and, sk_bit hl, b_0]
    by_cases e : i = l
    · rw [e, h, Bool.false_and]
    · rw [decide_eq_false e, Bool.and_false]
theorem sk_not (x : Int32) {i : Nat} (hi : i < 32) : bt (x ^^^ (-1)) i = !bt x i := by
  rw [b_xor, b_m1 i hi, Bool.xor_true]
/-- the word pd holds, bit for bit, the flags of process p's signals 1 to 15 -/
def sk_PB (pd : Int32) (pn : Nat → Int32) (p : Nat) : Prop := ∀ s, s < 32 → (bt pd s = true ↔ 1 ≤ s ∧ s < 16 ∧ ¬ pn (p * 16 + s) = 0)
theorem sk_PB_t {pd : Int32} {pn : Nat → Int32} {p s : Nat} (h : sk_PB pd pn p) (h1 : 1 ≤ s) (h2 : s < 16) : pd &&& ((1 : Int32) <<< (nI s &&& 31)) = 0 ↔ pn (p * 16 + s) = 0 := by
  rw [sk_and0 (by omega)]
  have hh := h s (by omega)
  cases hb : bt pd s with
  | false =>
    rw [hb] at hh
    exact ⟨fun _ => Classical.byContradiction fun z => absurd (hh.mpr ⟨h1, h2, z⟩) (by decide), fun _ => rfl⟩
  | true =>
    rw [hb] at hh
    exact ⟨fun z => absurd z (by decide), fun z => absurd z (hh.mp rfl).2.2⟩
theorem sk_PB_r {pd m : Int32} {pn : Nat → Int32} {p s : Nat} (h : sk_PB pd pn p) (h1 : 1 ≤ s) (h2 : s < 16) : (pd &&& (m ^^^ (-1))) &&& ((1 : Int32) <<< (nI s &&& 31)) = 0 ↔ (pn (p * 16 + s) = 0 ∨ ¬ m &&& ((1 : Int32) <<< (nI s &&& 31)) = 0) := by
  rw [← sk_PB_t h h1 h2, sk_and0 (by omega), sk_and0 (by omega), sk_and0 (by omega), b_and, sk_not _ (by omega)]
  cases bt pd s <;> cases bt m s <;> decide
theorem sk_PB_d {pd : Int32} {pn : Nat → Int32} {p s : Nat} (h : sk_PB pd pn p) (hs : s < 16) : sk_PB (pd &&& (((1 : Int32) <<< (nI s &&& 31)) ^^^ (-1))) (upd pn (p * 16 + s) 0) p := by
  intro i hi
  have hh := h i hi
  rw [b_and, sk_not _ hi, sk_bit (by omega)]
  by_cases e : i = s
  · subst e
    rw [pk_us]
    simp
  · rw [pk_un (by omega), decide_eq_false e, Bool.not_false, Bool.and_true]
    exact hh
theorem sk_PB_m {pd x : Int32} {pn : Nat → Int32} {p s : Nat} (h : sk_PB pd pn p) (h1 : 1 ≤ s) (hs : s < 16) (hx : ¬ x = 0) : sk_PB (pd ||| ((1 : Int32) <<< (nI s &&& 31))) (upd pn (p * 16 + s) x) p := by
  intro i hi
  have hh := h i hi
  rw [b_or, sk_bit (by omega)]
  by_cases e : i = s
  · subst e
    rw [pk_us]
    simp [h1, hs, hx]
  · rw [pk_un (by omega), decide_eq_false e, Bool.or_false]
    exact hh
theorem sk_PB_o {pd : Int32} {pn pn' : Nat → Int32} {q : Nat} (h : sk_PB pd pn q) (e : ∀ s, s < 16 → pn' (q * 16 + s) = pn (q * 16 + s)) : sk_PB pd pn' q := by
  intro i hi
  have hh := h i hi
  by_cases z : i < 16
  · rw [e i z]; exact hh
  · exact ⟨fun y => absurd (hh.mp y).2.1 z, fun y => absurd y.2.1 z⟩
theorem sk_PB_0 {pn : Nat → Int32} {p : Nat} (h : ∀ s, s < 16 → pn (p * 16 + s) = 0) : sk_PB 0 pn p := by
  intro i _
  rw [b_0]
  exact ⟨fun z => absurd z (by decide), fun z => absurd (h i z.2.1) z.2.2⟩
/-- b .. b+n-1 cleared, one after the other -/
def sk_clr (f : Nat → Int32) (b : Nat) : Nat → Nat → Int32
  | 0 => f
  | n + 1 => upd (sk_clr f b n) (b + n) 0
theorem sk_clr_in {f : Nat → Int32} {b j : Nat} : ∀ n, j < n → sk_clr f b n (b + j) = 0 := by
  intro n
  induction n with
  | zero => intro h; omega
  | succ n ih =>
    intro h
    show upd (sk_clr f b n) (b + n) 0 (b + j) = 0
    by_cases e : j = n
    · rw [e, pk_us]
    · rw [pk_un (by omega)]; exact ih (by omega)
theorem sk_clr_out {f : Nat → Int32} {b j : Nat} : ∀ n, (j < b ∨ b + n ≤ j) → sk_clr f b n j = f j := by
  intro n
  induction n with
  | zero => intro _; rfl
  | succ n ih =>
    intro h
    show upd (sk_clr f b n) (b + n) 0 j = f j
    rw [pk_un (by omega)]; exact ih (by omega)
/-- the queue's slots b+j .. shifted down by one, n of them -/
def sk_shf (f : Nat → Int32) (b : Nat) : Nat → Nat → Int32
  | 0 => f
  | n + 1 => upd (sk_shf f b n) (b + n) (sk_shf f b n (b + n + 1))
theorem sk_shf_hi {f : Nat → Int32} {b j : Nat} : ∀ n, (j < b ∨ b + n ≤ j) → sk_shf f b n j = f j := by
  intro n
  induction n with
  | zero => intro _; rfl
  | succ n ih =>
    intro h
    show upd (sk_shf f b n) (b + n) _ j = f j
    rw [pk_un (by omega)]; exact ih (by omega)
theorem sk_shf_in {f : Nat → Int32} {b j : Nat} : ∀ n, j < n → sk_shf f b n (b + j) = f (b + j + 1) := by
  intro n
  induction n with
  | zero => intro h; omega
  | succ n ih =>
    intro h
    show upd (sk_shf f b n) (b + n) _ (b + j) = _
    by_cases e : j = n
    · rw [e, pk_us, sk_shf_hi n (by omega)]
    · rw [pk_un (by omega)]; exact ih (by omega)
/-- the log's arrays and count behind one event -/
def sk_lgN (n : Nat) : Nat := if n < 128 then n + 1 else n
def sk_lgA (f : Nat → Int32) (n : Nat) (x : Int32) : Nat → Int32 := if n < 128 then upd f n x else f
theorem sk_lgN_le {n : Nat} (h : n ≤ 128) : sk_lgN n ≤ 128 := by
  unfold sk_lgN
  split <;> omega
/-! the invariants -/
def sk_PA (pg pn : Nat → Int32) : Prop := ∀ p, p < 4 → sk_PB (pg p) pn p
def sk_SZ (pn ss : Nat → Int32) : Prop := ∀ j, pn j = 0 → ss j = 0
def sk_DP (dp : Nat → Int32) : Prop := ∀ p, p < 4 → ∃ d, d ≤ 4 ∧ dp p = nI d
def sk_QL (ql qs : Nat → Int32) : Prop := ∀ p, p < 4 → ∃ l, l ≤ 8 ∧ ql p = nI l ∧ ∀ j, j < l → ∃ s, 1 ≤ s ∧ s < 32 ∧ qs (p * 8 + j) = nI s
def sk_HD (hd : Nat → Int32) : Prop := ∀ j, hd j = -2 ∨ hd j = -1 ∨ 0 ≤ hd j
def sk_SL (sl : Nat → Int32) : Prop := ∀ p, 0 ≤ sl p
def sk_MK (mk : Nat → Int32) : Prop := ∀ p, mk p &&& (-33282) = mk p
theorem sk_PA_d {pg pn : Nat → Int32} {p s : Nat} (h : sk_PA pg pn) (hs : s < 16) : sk_PA (upd pg p (pg p &&& (((1 : Int32) <<< (nI s &&& 31)) ^^^ (-1)))) (upd pn (p * 16 + s) 0) := by
  intro q hq
  by_cases e : q = p
  · subst e
    rw [pk_us]
    exact sk_PB_d (h q hq) hs
  · rw [pk_un e]
    exact sk_PB_o (h q hq) fun i hi => pk_un (by omega)
theorem sk_PA_m {pg pn : Nat → Int32} {p s : Nat} {x : Int32} (h : sk_PA pg pn) (h1 : 1 ≤ s) (hs : s < 16) (hx : ¬ x = 0) : sk_PA (upd pg p (pg p ||| ((1 : Int32) <<< (nI s &&& 31)))) (upd pn (p * 16 + s) x) := by
  intro q hq
  by_cases e : q = p
  · subst e
    rw [pk_us]
    exact sk_PB_m (h q hq) h1 hs hx
  · rw [pk_un e]
    exact sk_PB_o (h q hq) fun i hi => pk_un (by omega)
theorem sk_PA_c {pg pn : Nat → Int32} {p : Nat} (h : sk_PA pg pn) : sk_PA (upd pg p 0) (sk_clr pn (p * 16) 16) := by
  intro q hq
  by_cases e : q = p
  · subst e
    rw [pk_us]
    exact sk_PB_0 fun i hi => sk_clr_in 16 hi
  · rw [pk_un e]
    exact sk_PB_o (h q hq) fun i hi => sk_clr_out 16 (by omega)
theorem sk_SZ_d {pn ss : Nat → Int32} {j : Nat} (x : Int32) (h : sk_SZ pn ss) : sk_SZ (upd pn j x) (upd ss j 0) := by
  intro i hi
  by_cases e : i = j
  · rw [e, pk_us]
  · rw [pk_un e] at hi ⊢
    exact h i hi
theorem sk_SZ_m {pn ss : Nat → Int32} {j : Nat} {x y : Int32} (h : sk_SZ pn ss) (hx : ¬ x = 0) : sk_SZ (upd pn j x) (upd ss j y) := by
  intro i hi
  by_cases e : i = j
  · rw [e, pk_us] at hi
    exact absurd hi hx
  · rw [pk_un e] at hi ⊢
    exact h i hi
theorem sk_SZ_c {pn ss : Nat → Int32} {b n : Nat} (h : sk_SZ pn ss) : sk_SZ (sk_clr pn b n) (sk_clr ss b n) := by
  induction n with
  | zero => exact h
  | succ n ih => exact sk_SZ_d 0 ih
theorem sk_DP_u {dp : Nat → Int32} {p d : Nat} (h : sk_DP dp) (hd : d ≤ 4) : sk_DP (upd dp p (nI d)) := by
  intro q hq
  by_cases e : q = p
  · exact ⟨d, hd, by rw [e, pk_us]⟩
  · rw [pk_un e]; exact h q hq
theorem sk_QL_0 {ql qs : Nat → Int32} {p : Nat} (h : sk_QL ql qs) : sk_QL (upd ql p 0) qs := by
  intro q hq
  by_cases e : q = p
  · exact ⟨0, by omega, by rw [e, pk_us]; exact nI_0.symm, fun j hj => by omega⟩
  · rw [pk_un e]; exact h q hq
theorem sk_QL_a {ql qs : Nat → Int32} {p l s : Nat} (hp : p < 4) (h : sk_QL ql qs) (hl : l < 8) (e : ql p = nI l) (h1 : 1 ≤ s) (h2 : s < 32) : sk_QL (upd ql p (nI (l + 1))) (upd qs (p * 8 + l) (nI s)) := by
  intro q hq
  by_cases eq : q = p
  · subst eq
    refine ⟨l + 1, by omega, by rw [pk_us], fun j hj => ?_⟩
    by_cases ej : j = l
    · exact ⟨s, h1, h2, by rw [ej, pk_us]⟩
    · obtain ⟨l', hl', el', hh⟩ := h q hq
      rw [e] at el'
      have el : l = l' := (nI_eq (by omega) (by omega)).mp el'
      subst el
      rw [pk_un (by omega)]
      exact hh j (by omega)
  · obtain ⟨l', hl', el', hh⟩ := h q hq
    refine ⟨l', hl', by rw [pk_un eq]; exact el', fun j hj => ?_⟩
    rw [pk_un (by omega)]
    exact hh j hj
theorem sk_QL_r {ql qs : Nat → Int32} {p l j : Nat} (hp : p < 4) (h : sk_QL ql qs) (hl : l + 1 ≤ 8) (e : ql p = nI (l + 1)) (hj : j ≤ l) : sk_QL (upd ql p (nI l)) (sk_shf qs (p * 8 + j) (l - j)) := by
  intro q hq
  by_cases eq : q = p
  · subst eq
    obtain ⟨l', hl', el', hh⟩ := h q hq
    rw [e] at el'
    have el : l + 1 = l' := (nI_eq (by omega) (by omega)).mp el'
    subst el
    refine ⟨l, by omega, by rw [pk_us], fun i hi => ?_⟩
    by_cases z : i < j
    · rw [sk_shf_hi _ (by omega)]
      exact hh i (by omega)
    · obtain ⟨s, h1, h2, hs⟩ := hh (i + 1) (by omega)
      refine ⟨s, h1, h2, ?_⟩
      have := sk_shf_in (f := qs) (b := q * 8 + j) (j := i - j) (l - j) (by omega)
      rw [show q * 8 + j + (i - j) = q * 8 + i by omega] at this
      rw [this]; exact hs
  · obtain ⟨l', hl', el', hh⟩ := h q hq
    refine ⟨l', hl', by rw [pk_un eq]; exact el', fun i hi => ?_⟩
    rw [sk_shf_hi _ (by omega)]
    exact hh i hi
theorem sk_HD_u {hd : Nat → Int32} {j : Nat} {x : Int32} (h : sk_HD hd) (hx : x = -2 ∨ x = -1 ∨ 0 ≤ x) : sk_HD (upd hd j x) := by
  intro i
  by_cases e : i = j
  · rw [e, pk_us]; exact hx
  · rw [pk_un e]; exact h i
theorem sk_SL_u {sl : Nat → Int32} {j : Nat} {x : Int32} (h : sk_SL sl) (hx : 0 ≤ x) : sk_SL (upd sl j x) := by
  intro i
  by_cases e : i = j
  · rw [e, pk_us]; exact hx
  · rw [pk_un e]; exact h i
theorem sk_MK_u {mk : Nat → Int32} {j : Nat} {x : Int32} (h : sk_MK mk) (hx : x &&& (-33282) = x) : sk_MK (upd mk j x) := by
  intro i
  by_cases e : i = j
  · rw [e, pk_us]; exact hx
  · rw [pk_un e]; exact h i
theorem sk_clean (x : Int32) : (x &&& (-33282)) &&& (-33282) = x &&& (-33282) := by
  rw [Int32.and_assoc, Int32.and_self]
theorem sk_same {f : Nat → Int32} {j : Nat} {x : Int32} (h : f j = x) : upd f j x = f := by
  funext i
  by_cases e : i = j
  · rw [e, pk_us]; exact h.symm
  · exact pk_un e
/-! index arithmetic: nI p * c + nI s -/
theorem sk_ix (p c s : Nat) : nI p * nI c + nI s = nI (p * c + s) := by rw [pk_mul, nI_add]
theorem sk_ix16 (p s : Nat) : nI p * 16 + nI s = nI (p * 16 + s) := sk_ix p 16 s
theorem sk_ix32 (p s : Nat) : nI p * 32 + nI s = nI (p * 32 + s) := sk_ix p 32 s
theorem sk_ix8 (p s : Nat) : nI p * 8 + nI s = nI (p * 8 + s) := sk_ix p 8 s
theorem sk_ix4 (p s : Nat) : nI p * 4 + nI s = nI (p * 4 + s) := sk_ix p 4 s
theorem sk_sel (P : Nat → Prop) (a b : Nat) : (∃ i, a ≤ i ∧ i < b ∧ P i ∧ ∀ j, a ≤ j → j < i → ¬ P j) ∨ (∀ j, a ≤ j → j < b → ¬ P j) := by
  by_cases h : ∃ i, a ≤ i ∧ i < b ∧ P i
  · obtain ⟨i, ⟨h1, h2, h3⟩, hm⟩ := pk_least (fun i => a ≤ i ∧ i < b ∧ P i) h
    exact Or.inl ⟨i, h1, h2, h3, fun j hj hji hp => hm j hji ⟨hj, by omega, hp⟩⟩
  · exact Or.inr fun j h1 h2 hp => h ⟨j, h1, h2, hp⟩
theorem sk_nb0 : vp_nar .boolean 0 = 0 := by rfl
theorem sk_nb1 : vp_nar .boolean 1 = 1 := by rfl
/-! entering a handler: what is kept of pc and A, the new mask, the disposition behind it -/
def sk_itC (sl pc : Nat → Int32) (p : Nat) (f : Int32) : Int32 := if 0 < sl p ∧ f &&& 1 = 0 then pc p + 1 else pc p
def sk_itA (sl ra : Nat → Int32) (p : Nat) (f : Int32) : Int32 := if 0 < sl p ∧ f &&& 1 = 0 then -4 else ra p
def sk_mkH (mk : Nat → Int32) (p g : Nat) (f : Int32) : Nat → Int32 := if f &&& 2 = 0 then upd mk p ((mk p ||| ((1 : Int32) <<< (nI g &&& 31))) &&& (-33282)) else mk
def sk_hdH (hd : Nat → Int32) (j : Nat) (f : Int32) : Nat → Int32 := if f &&& 4 = 0 then hd else upd hd j (-1)
def sk_flH (fl : Nat → Int32) (j : Nat) (f : Int32) : Nat → Int32 := if f &&& 4 = 0 then fl else upd fl j 0
theorem sk_MK_H {mk : Nat → Int32} {p g : Nat} {f : Int32} (h : sk_MK mk) : sk_MK (sk_mkH mk p g f) := by
  unfold sk_mkH
  split
  · exact sk_MK_u h (sk_clean _)
  · exact h
theorem sk_HD_H {hd : Nat → Int32} {j : Nat} {f : Int32} (h : sk_HD hd) : sk_HD (sk_hdH hd j f) := by
  unfold sk_hdH
  split
  · exact h
  · exact sk_HD_u h (Or.inr (Or.inl rfl))
