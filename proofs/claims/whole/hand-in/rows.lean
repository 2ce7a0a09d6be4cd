section
/-! rows of the kit pasted (pk_, bt, b_, nf_), then the pure rows of this claim: bits, the pending set, cleared and shifted arrays -/
theorem pk_us {f : Nat → Int32} {k : Nat} {x : Int32} : upd f k x k = x := if_pos rfl
theorem pk_un {f : Nat → Int32} {k j : Nat} {x : Int32} (h : j ≠ k) : upd f k x j = f j := if_neg h
theorem pk_sub {a b : Nat} (h : b ≤ a) : nI a - nI b = nI (a - b) := by
  obtain ⟨c, rfl⟩ : ∃ c, a = c + b := ⟨a - b, by omega⟩
  rw [← nI_add, Int32.add_sub_cancel, Nat.add_sub_cancel]
theorem pk_m1 (n : Nat) : nI (n + 1) + (-1) = nI n := by
  rw [← nI_1, Int32.add_assoc, show (1 : Int32) + (-1) = 0 from rfl, Int32.add_zero]
theorem pk_mul (a b : Nat) : nI a * nI b = nI (a * b) := (Int32.ofNat_mul a b).symm
theorem pk_ix (x : Int32) {n : Nat} (hn : n < 2 ^ 31) : x < 0 ∨ nI n ≤ x ∨ ∃ j : Nat, j < n ∧ x = nI j := by
  by_cases h : x < 0
  · exact Or.inl h
  · obtain ⟨j, hj, rfl⟩ := nI_of h
    by_cases h2 : j < n
    · exact Or.inr (Or.inr ⟨j, h2, rfl⟩)
    · exact Or.inr (Or.inl (nI_le (by omega) hj))
theorem pk_le {x y : Int32} {A B : Prop} (a b : Nat) (f : a ≤ b → A) (g : b < a → B) (hx : x = nI a := by rfl) (hy : y = nI b := by rfl) (ha : a < 2 ^ 31 := by omega) (hb : b < 2 ^ 31 := by omega) : (x ≤ y → A) ∧ (¬ x ≤ y → B) := by
  subst hx hy
  rw [nI_leI ha hb]
  exact ⟨f, fun z => g (by omega)⟩
theorem pk_lt {x y : Int32} {A B : Prop} (a b : Nat) (f : a < b → A) (g : b ≤ a → B) (hx : x = nI a := by rfl) (hy : y = nI b := by rfl) (ha : a < 2 ^ 31 := by omega) (hb : b < 2 ^ 31 := by omega) : (x < y → A) ∧ (¬ x < y → B) := by
  subst hx hy
  rw [nI_ltI ha hb]
  exact ⟨f, fun z => g (by omega)⟩
theorem pk_eq {x y : Int32} {A B : Prop} (a b : Nat) (f : a = b → A) (g : a ≠ b → B) (hx : x = nI a := by rfl) (hy : y = nI b := by rfl) (ha : a < 2 ^ 31 := by omega) (hb : b < 2 ^ 31 := by omega) : (x = y → A) ∧ (¬ x = y → B) := by
  subst hx hy
  rw [nI_eq ha hb]
  exact ⟨f, g⟩
theorem pk_in {x : Int32} (n N : Nat) (h : n < N) (hx : x = nI n := by rfl) (hN : N < 2 ^ 31 := by omega) : vp_in x N := by
  subst hx
  exact vp_in_nI h hN
theorem pk_cl {x : Int32} (n : Nat) (hx : x = nI n := by rfl) (h : n < 2 ^ 31 := by omega) : x.toNatClampNeg = n := by
  subst hx
  exact nI_clamp h
theorem pk_least (P : Nat → Prop) (h : ∃ k, P k) : ∃ k, P k ∧ ∀ j, j < k → ¬ P j := by
  obtain ⟨k, hk⟩ := h
  induction k using Nat.strongRecOn with
  | ind k ih =>
    by_cases e : ∃ j, j < k ∧ P j
    · obtain ⟨j, hj, pj⟩ := e
      exact ih j hj pj
    · exact ⟨k, hk, fun j hj pj => e ⟨j, hj, pj⟩⟩
def bt (x : Int32) (i : Nat) : Bool := x.toBitVec.getLsbD i
theorem b_ext {x y : Int32} (h : ∀ i, i < 32 → bt x i = bt y i) : x = y := Int32.toBitVec_inj.mp (BitVec.eq_of_getLsbD_eq (fun i hi => h i hi))
theorem b_or (x y : Int32) (i : Nat) : bt (x ||| y) i = (bt x i || bt y i) := by unfold bt; rw [Int32.toBitVec_or, BitVec.getLsbD_or]
theorem b_and (x y : Int32) (i : Nat) : bt (x &&& y) i = (bt x i && bt y i) := by unfold bt; rw [Int32.toBitVec_and, BitVec.getLsbD_and]
theorem b_xor (x y : Int32) (i : Nat) : bt (x ^^^ y) i = (bt x i ^^ bt y i) := by unfold bt; rw [Int32.toBitVec_xor, BitVec.getLsbD_xor]
theorem b_big {x : Int32} {i : Nat} (h : 32 ≤ i) : bt x i = false := BitVec.getLsbD_of_ge _ _ h
theorem b_m1 : ∀ i, i < 32 → bt (-1) i = true := by decide +kernel
theorem b_0 (i : Nat) : bt 0 i = false := BitVec.getLsbD_zero
theorem nf_sh : ∀ l, l < 32 → ((1 : Int32) <<< (nI l &&& 31)).toBitVec = BitVec.twoPow 32 l := by decide +kernel
theorem nf_tp : ∀ l, l < 32 → BitVec.twoPow 32 l ≠ 0#32 := by decide +kernel
theorem sk_bit {l : Nat} (hl : l < 32) (i : Nat) : bt ((1 : Int32) <<< (nI l &&& 31)) i = decide (i = l) := by
  unfold bt
  rw [nf_sh l hl, BitVec.getLsbD_twoPow, decide_eq_true hl, Bool.true_and]
  exact decide_eq_decide.mpr ⟨Eq.symm, Eq.symm⟩
theorem sk_and0 {x : Int32} {l : Nat} (hl : l < 32) : x &&& ((1 : Int32) <<< (nI l &&& 31)) = 0 ↔ bt x l = false := by
  constructor
  · intro h
    have e : bt (x &&& ((1 : Int32) <<< (nI l &&& 31))) l = bt 0 l := by rw [h]
    rw [b_and, sk_bit hl, b_0] at e
    simpa using e
  · intro h
    apply b_ext
    intro i _
    rw [b_and, sk_bit hl, b_0]
    by_cases e : i = l
    · rw [e, h, Bool.false_and]
    · rw [decide_eq_false e, Bool.and_false]
theorem sk_not (x : Int32) {i : Nat} (hi : i < 32) : bt (x ^^^ (-1)) i = !bt x i := by
  rw [b_xor, b_m1 i hi, Bool.xor_true]
/-- the word pd holds, bit for bit, the flags of process p's signals 1 to 15 -/
def sk_PB (pd : Int32) (pn : Nat → Int32) (p : Nat) : Prop := ∀ s, s < 32 → (bt pd s = true ↔ 1 ≤ s ∧ s < 16 ∧ ¬ pn (p * 16 + s) = 0)
theorem sk_PB_t {pd : Int32} {pn : Nat → Int32} {p s : Nat} (h : sk_PB pd pn p) (h1 : 1 ≤ s) (h2 : s < 16) : pd &&& ((1 : Int32) <<< (nI s &&& 31)) = 0 ↔ pn (p * 16 + s) = 0 := by
  rw [sk_and0 (by omega)]
  have hh := h s (by omega)
  cases hb : bt pd s with
  | false =>
    rw [hb] at hh
    exact ⟨fun _ => Classical.byContradiction fun z => absurd (hh.mpr ⟨h1, h2, z⟩) (by decide), fun _ => rfl⟩
  | true =>
    rw [hb] at hh
    exact ⟨fun z => absurd z (by decide), fun z => absurd z (hh.mp rfl).2.2⟩
theorem sk_PB_r {pd m : Int32} {pn : Nat → Int32} {p s : Nat} (h : sk_PB pd pn p) (h1 : 1 ≤ s) (h2 : s < 16) : (pd &&& (m ^^^ (-1))) &&& ((1 : Int32) <<< (nI s &&& 31)) = 0 ↔ (pn (p * 16 + s) = 0 ∨ ¬ m &&& ((1 : Int32) <<< (nI s &&& 31)) = 0) := by
  rw [← sk_PB_t h h1 h2, sk_and0 (by omega), sk_and0 (by omega), sk_and0 (by omega), b_and, sk_not _ (by omega)]
  cases bt pd s <;> cases bt m s <;> decide
theorem sk_PB_d {pd : Int32} {pn : Nat → Int32} {p s : Nat} (h : sk_PB pd pn p) (hs : s < 16) : sk_PB (pd &&& (((1 : Int32) <<< (nI s &&& 31)) ^^^ (-1))) (upd pn (p * 16 + s) 0) p := by
  intro i hi
  have hh := h i hi
  rw [b_and, sk_not _ hi, sk_bit (by omega)]
  by_cases e : i = s
  · subst e
    rw [pk_us]
    simp
  · rw [pk_un (by omega), decide_eq_false e, Bool.not_false, Bool.and_true]
    exact hh
theorem sk_PB_m {pd x : Int32} {pn : Nat → Int32} {p s : Nat} (h : sk_PB pd pn p) (h1 : 1 ≤ s) (hs : s < 16) (hx : ¬ x = 0) : sk_PB (pd ||| ((1 : Int32) <<< (nI s &&& 31))) (upd pn (p * 16 + s) x) p := by
  intro i hi
  have hh := h i hi
  rw [b_or, sk_bit (by omega)]
  by_cases e : i = s
  · subst e
    rw [pk_us]
    simp [h1, hs, hx]
  · rw [pk_un (by omega), decide_eq_false e, Bool.or_false]
    exact hh
theorem sk_PB_o {pd : Int32} {pn pn' : Nat → Int32} {q : Nat} (h : sk_PB pd pn q) (e : ∀ s, s < 16 → pn' (q * 16 + s) = pn (q * 16 + s)) : sk_PB pd pn' q := by
  intro i hi
  have hh := h i hi
  by_cases z : i < 16
  · rw [e i z]; exact hh
  · exact ⟨fun y => absurd (hh.mp y).2.1 z, fun y => absurd y.2.1 z⟩
theorem sk_PB_0 {pn : Nat → Int32} {p : Nat} (h : ∀ s, s < 16 → pn (p * 16 + s) = 0) : sk_PB 0 pn p := by
  intro i _
  rw [b_0]
  exact ⟨fun z => absurd z (by decide), fun z => absurd (h i z.2.1) z.2.2⟩
/-- b .. b+n-1 cleared, one after the other -/
def sk_clr (f : Nat → Int32) (b : Nat) : Nat → Nat → Int32
  | 0 => f
  | n + 1 => upd (sk_clr f b n) (b + n) 0
theorem sk_clr_in {f : Nat → Int32} {b j : Nat} : ∀ n, j < n → sk_clr f b n (b + j) = 0 := by
  intro n
  induction n with
  | zero => intro h; omega
  | succ n ih =>
    intro h
    show upd (sk_clr f b n) (b + n) 0 (b + j) = 0
    by_cases e : j = n
    · rw [e, pk_us]
    · rw [pk_un (by omega)]; exact ih (by omega)
theorem sk_clr_out {f : Nat → Int32} {b j : Nat} : ∀ n, (j < b ∨ b + n ≤ j) → sk_clr f b n j = f j := by
  intro n
  induction n with
  | zero => intro _; rfl
  | succ n ih =>
    intro h
    show upd (sk_clr f b n) (b + n) 0 j = f j
    rw [pk_un (by omega)]; exact ih (by omega)
/-- the queue's slots b+j .. shifted down by one, n of them -/
def sk_shf (f : Nat → Int32) (b : Nat) : Nat → Nat → Int32
  | 0 => f
  | n + 1 => upd (sk_shf f b n) (b + n) (sk_shf f b n (b + n + 1))
theorem sk_shf_hi {f : Nat → Int32} {b j : Nat} : ∀ n, (j < b ∨ b + n ≤ j) → sk_shf f b n j = f j := by
  intro n
  induction n with
  | zero => intro _; rfl
  | succ n ih =>
    intro h
    show upd (sk_shf f b n) (b + n) _ j = f j
    rw [pk_un (by omega)]; exact ih (by omega)
theorem sk_shf_in {f : Nat → Int32} {b j : Nat} : ∀ n, j < n → sk_shf f b n (b + j) = f (b + j + 1) := by
  intro n
  induction n with
  | zero => intro h; omega
  | succ n ih =>
    intro h
    show upd (sk_shf f b n) (b + n) _ (b + j) = _
    by_cases e : j = n
    · rw [e, pk_us, sk_shf_hi n (by omega)]
    · rw [pk_un (by omega)]; exact ih (by omega)
/-- the log's arrays and count behind one event -/
def sk_lgN (n : Nat) : Nat := if n < 128 then n + 1 else n
def sk_lgA (f : Nat → Int32) (n : Nat) (x : Int32) : Nat → Int32 := if n < 128 then upd f n x else f
theorem sk_lgN_le {n : Nat} (h : n ≤ 128) : sk_lgN n ≤ 128 := by
  unfold sk_lgN
  split <;> omega
/-! the invariants -/
def sk_PA (pg pn : Nat → Int32) : Prop := ∀ p, p < 4 → sk_PB (pg p) pn p
def sk_SZ (pn ss : Nat → Int32) : Prop := ∀ j, pn j = 0 → ss j = 0
def sk_DP (dp : Nat → Int32) : Prop := ∀ p, p < 4 → ∃ d, d ≤ 4 ∧ dp p = nI d
def sk_QL (ql qs : Nat → Int32) : Prop := ∀ p, p < 4 → ∃ l, l ≤ 8 ∧ ql p = nI l ∧ ∀ j, j < l → ∃ s, 1 ≤ s ∧ s < 32 ∧ qs (p * 8 + j) = nI s
def sk_HD (hd : Nat → Int32) : Prop := ∀ j, hd j = -2 ∨ hd j = -1 ∨ 0 ≤ hd j
def sk_SL (sl : Nat → Int32) : Prop := ∀ p, 0 ≤ sl p
def sk_MK (mk : Nat → Int32) : Prop := ∀ p, mk p &&& (-33282) = mk p
theorem sk_PA_d {pg pn : Nat → Int32} {p s : Nat} (h : sk_PA pg pn) (hs : s < 16) : sk_PA (upd pg p (pg p &&& (((1 : Int32) <<< (nI s &&& 31)) ^^^ (-1)))) (upd pn (p * 16 + s) 0) := by
  intro q hq
  by_cases e : q = p
  · subst e
    rw [pk_us]
    exact sk_PB_d (h q hq) hs
  · rw [pk_un e]
    exact sk_PB_o (h q hq) fun i hi => pk_un (by omega)
theorem sk_PA_m {pg pn : Nat → Int32} {p s : Nat} {x : Int32} (h : sk_PA pg pn) (h1 : 1 ≤ s) (hs : s < 16) (hx : ¬ x = 0) : sk_PA (upd pg p (pg p ||| ((1 : Int32) <<< (nI s &&& 31)))) (upd pn (p * 16 + s) x) := by
  intro q hq
  by_cases e : q = p
  · subst e
    rw [pk_us]
    exact sk_PB_m (h q hq) h1 hs hx
  · rw [pk_un e]
    exact sk_PB_o (h q hq) fun i hi => pk_un (by omega)
theorem sk_PA_c {pg pn : Nat → Int32} {p : Nat} (h : sk_PA pg pn) : sk_PA (upd pg p 0) (sk_clr pn (p * 16) 16) := by
  intro q hq
  by_cases e : q = p
  · subst e
    rw [pk_us]
    exact sk_PB_0 fun i hi => sk_clr_in 16 hi
  · rw [pk_un e]
    exact sk_PB_o (h q hq) fun i hi => sk_clr_out 16 (by omega)
theorem sk_SZ_d {pn ss : Nat → Int32} {j : Nat} (x : Int32) (h : sk_SZ pn ss) : sk_SZ (upd pn j x) (upd ss j 0) := by
  intro i hi
  by_cases e : i = j
  · rw [e, pk_us]
  · rw [pk_un e] at hi ⊢
    exact h i hi
theorem sk_SZ_m {pn ss : Nat → Int32} {j : Nat} {x y : Int32} (h : sk_SZ pn ss) (hx : ¬ x = 0) : sk_SZ (upd pn j x) (upd ss j y) := by
  intro i hi
  by_cases e : i = j
  · rw [e, pk_us] at hi
    exact absurd hi hx
  · rw [pk_un e] at hi ⊢
    exact h i hi
theorem sk_SZ_c {pn ss : Nat → Int32} {b n : Nat} (h : sk_SZ pn ss) : sk_SZ (sk_clr pn b n) (sk_clr ss b n) := by
  induction n with
  | zero => exact h
  | succ n ih => exact sk_SZ_d 0 ih
theorem sk_DP_u {dp : Nat → Int32} {p d : Nat} (h : sk_DP dp) (hd : d ≤ 4) : sk_DP (upd dp p (nI d)) := by
  intro q hq
  by_cases e : q = p
  · exact ⟨d, hd, by rw [e, pk_us]⟩
  · rw [pk_un e]; exact h q hq
theorem sk_QL_0 {ql qs : Nat → Int32} {p : Nat} (h : sk_QL ql qs) : sk_QL (upd ql p 0) qs := by
  intro q hq
  by_cases e : q = p
  · exact ⟨0, by omega, by rw [e, pk_us]; exact nI_0.symm, fun j hj => by omega⟩
  · rw [pk_un e]; exact h q hq
theorem sk_QL_a {ql qs : Nat → Int32} {p l s : Nat} (hp : p < 4) (h : sk_QL ql qs) (hl : l < 8) (e : ql p = nI l) (h1 : 1 ≤ s) (h2 : s < 32) : sk_QL (upd ql p (nI (l + 1))) (upd qs (p * 8 + l) (nI s)) := by
  intro q hq
  by_cases eq : q = p
  · subst eq
    refine ⟨l + 1, by omega, by rw [pk_us], fun j hj => ?_⟩
    by_cases ej : j = l
    · exact ⟨s, h1, h2, by rw [ej, pk_us]⟩
    · obtain ⟨l', hl', el', hh⟩ := h q hq
      rw [e] at el'
      have el : l = l' := (nI_eq (by omega) (by omega)).mp el'
      subst el
      rw [pk_un (by omega)]
      exact hh j (by omega)
  · obtain ⟨l', hl', el', hh⟩ := h q hq
    refine ⟨l', hl', by rw [pk_un eq]; exact el', fun j hj => ?_⟩
    rw [pk_un (by omega)]
    exact hh j hj
theorem sk_QL_r {ql qs : Nat → Int32} {p l j : Nat} (hp : p < 4) (h : sk_QL ql qs) (hl : l + 1 ≤ 8) (e : ql p = nI (l + 1)) (hj : j ≤ l) : sk_QL (upd ql p (nI l)) (sk_shf qs (p * 8 + j) (l - j)) := by
  intro q hq
  by_cases eq : q = p
  · subst eq
    obtain ⟨l', hl', el', hh⟩ := h q hq
    rw [e] at el'
    have el : l + 1 = l' := (nI_eq (by omega) (by omega)).mp el'
    subst el
    refine ⟨l, by omega, by rw [pk_us], fun i hi => ?_⟩
    by_cases z : i < j
    · rw [sk_shf_hi _ (by omega)]
      exact hh i (by omega)
    · obtain ⟨s, h1, h2, hs⟩ := hh (i + 1) (by omega)
      refine ⟨s, h1, h2, ?_⟩
      have := sk_shf_in (f := qs) (b := q * 8 + j) (j := i - j) (l - j) (by omega)
      rw [show q * 8 + j + (i - j) = q * 8 + i by omega] at this
      rw [this]; exact hs
  · obtain ⟨l', hl', el', hh⟩ := h q hq
    refine ⟨l', hl', by rw [pk_un eq]; exact el', fun i hi => ?_⟩
    rw [sk_shf_hi _ (by omega)]
    exact hh i hi
theorem sk_HD_u {hd : Nat → Int32} {j : Nat} {x : Int32} (h : sk_HD hd) (hx : x = -2 ∨ x = -1 ∨ 0 ≤ x) : sk_HD (upd hd j x) := by
  intro i
  by_cases e : i = j
  · rw [e, pk_us]; exact hx
  · rw [pk_un e]; exact h i
theorem sk_SL_u {sl : Nat → Int32} {j : Nat} {x : Int32} (h : sk_SL sl) (hx : 0 ≤ x) : sk_SL (upd sl j x) := by
  intro i
  by_cases e : i = j
  · rw [e, pk_us]; exact hx
  · rw [pk_un e]; exact h i
theorem sk_MK_u {mk : Nat → Int32} {j : Nat} {x : Int32} (h : sk_MK mk) (hx : x &&& (-33282) = x) : sk_MK (upd mk j x) := by
  intro i
  by_cases e : i = j
  · rw [e, pk_us]; exact hx
  · rw [pk_un e]; exact h i
theorem sk_clean (x : Int32) : (x &&& (-33282)) &&& (-33282) = x &&& (-33282) := by
  rw [Int32.and_assoc, Int32.and_self]
theorem sk_same {f : Nat → Int32} {j : Nat} {x : Int32} (h : f j = x) : upd f j x = f := by
  funext i
  by_cases e : i = j
  · rw [e, pk_us]; exact h.symm
  · exact pk_un e
/-! index arithmetic: nI p * c + nI s -/
theorem sk_ix (p c s : Nat) : nI p * nI c + nI s = nI (p * c + s) := by rw [pk_mul, nI_add]
theorem sk_ix16 (p s : Nat) : nI p * 16 + nI s = nI (p * 16 + s) := sk_ix p 16 s
theorem sk_ix32 (p s : Nat) : nI p * 32 + nI s = nI (p * 32 + s) := sk_ix p 32 s
theorem sk_ix8 (p s : Nat) : nI p * 8 + nI s = nI (p * 8 + s) := sk_ix p 8 s
theorem sk_ix4 (p s : Nat) : nI p * 4 + nI s = nI (p * 4 + s) := sk_ix p 4 s
theorem sk_sel (P : Nat → Prop) (a b : Nat) : (∃ i, a ≤ i ∧ i < b ∧ P i ∧ ∀ j, a ≤ j → j < i → ¬ P j) ∨ (∀ j, a ≤ j → j < b → ¬ P j) := by
  by_cases h : ∃ i, a ≤ i ∧ i < b ∧ P i
  · obtain ⟨i, ⟨h1, h2, h3⟩, hm⟩ := pk_least (fun i => a ≤ i ∧ i < b ∧ P i) h
    exact Or.inl ⟨i, h1, h2, h3, fun j hj hji hp => hm j hji ⟨hj, by omega, hp⟩⟩
  · exact Or.inr fun j h1 h2 hp => h ⟨j, h1, h2, hp⟩
theorem sk_nb0 : vp_nar .boolean 0 = 0 := by rfl
theorem sk_nb1 : vp_nar .boolean 1 = 1 := by rfl
/-! entering a handler: what is kept of pc and A, the new mask, the disposition behind it -/
def sk_itC (sl pc : Nat → Int32) (p : Nat) (f : Int32) : Int32 := if 0 < sl p ∧ f &&& 1 = 0 then pc p + 1 else pc p
def sk_itA (sl ra : Nat → Int32) (p : Nat) (f : Int32) : Int32 := if 0 < sl p ∧ f &&& 1 = 0 then -4 else ra p
def sk_mkH (mk : Nat → Int32) (p g : Nat) (f : Int32) : Nat → Int32 := if f &&& 2 = 0 then upd mk p ((mk p ||| ((1 : Int32) <<< (nI g &&& 31))) &&& (-33282)) else mk
def sk_hdH (hd : Nat → Int32) (j : Nat) (f : Int32) : Nat → Int32 := if f &&& 4 = 0 then hd else upd hd j (-1)
def sk_flH (fl : Nat → Int32) (j : Nat) (f : Int32) : Nat → Int32 := if f &&& 4 = 0 then fl else upd fl j 0
theorem sk_MK_H {mk : Nat → Int32} {p g : Nat} {f : Int32} (h : sk_MK mk) : sk_MK (sk_mkH mk p g f) := by
  unfold sk_mkH
  split
  · exact sk_MK_u h (sk_clean _)
  · exact h
theorem sk_HD_H {hd : Nat → Int32} {j : Nat} {f : Int32} (h : sk_HD hd) : sk_HD (sk_hdH hd j f) := by
  unfold sk_hdH
  split
  · exact h
  · exact sk_HD_u h (Or.inr (Or.inl rfl))
end
section
/-! the relation: both states hold the same arrays; X's pending word against Y's pending flags -/
def sk_Inv (np nd es : Nat) (pg pn ss dp ql qs hd sl mk fm : Nat → Int32) : Prop :=
  (1 ≤ np ∧ np ≤ 4) ∧ (1 ≤ nd ∧ nd ≤ 4) ∧ es ≤ 128 ∧ sk_PA pg pn ∧ sk_SZ pn ss ∧ sk_DP dp ∧ sk_QL ql qs ∧ sk_HD hd ∧ sk_SL sl ∧ sk_MK mk ∧ sk_MK fm
def sk_Rel (np : Nat) (u : SX) (v : SY) : Prop := ∃ (nd es : Nat) (ls et : Int32) (co ca pc ra rb sp mk dp fc fa fb fm sl st lf su pg pn ss ql qs qr hd fl ek ep ev er : Nat → Int32),
  u = (nI np, nI nd, ls, et, nI es, co, ca, pc, ra, rb, sp, mk, dp, fc, fa, fb, fm, sl, st, lf, su, pg, ss, ql, qs, qr, hd, fl, ek, ep, ev, er) ∧ v = (nI np, nI nd, ls, et, nI es, co, ca, pc, ra, rb, sp, mk, dp, sl, lf, su, ql, st, pn, ss, qs, qr, hd, fl, fc, fa, fb, fm, ek, ep, ev, er) ∧ sk_Inv np nd es pg pn ss dp ql qs hd sl mk fm
section
variable {np nd es : Nat} {ls et : Int32} {co ca pc ra rb sp mk dp fc fa fb fm sl st lf su pg pn ss ql qs qr hd fl ek ep ev er : Nat → Int32}
theorem sk_mk (h : sk_Inv np nd es pg pn ss dp ql qs hd sl mk fm) : sk_Rel np (nI np, nI nd, ls, et, nI es, co, ca, pc, ra, rb, sp, mk, dp, fc, fa, fb, fm, sl, st, lf, su, pg, ss, ql, qs, qr, hd, fl, ek, ep, ev, er) (nI np, nI nd, ls, et, nI es, co, ca, pc, ra, rb, sp, mk, dp, sl, lf, su, ql, st, pn, ss, qs, qr, hd, fl, fc, fa, fb, fm, ek, ep, ev, er) :=
  ⟨nd, es, ls, et, co, ca, pc, ra, rb, sp, mk, dp, fc, fa, fb, fm, sl, st, lf, su, pg, pn, ss, ql, qs, qr, hd, fl, ek, ep, ev, er, rfl, rfl, h⟩
end
def i_Rel (_ : Nat) (u : SX) (v : SY) : Prop := ∃ np, sk_Rel np u v
theorem i_up {k : Nat} {u : SX} {v : SY} (h : i_Rel k u v) : i_Rel (k + 5) u v := h
def sk_fill (f : Nat → Int32) (x : Int32) : Nat → Nat → Int32
  | 0 => f
  | n + 1 => upd (sk_fill f x n) n x
theorem sk_fill_HD : ∀ n, sk_HD (sk_fill (fun _ => 0) (-1) n) := by
  intro n
  induction n with
  | zero => exact fun _ => Or.inr (Or.inr (by show (0 : Int32) ≤ 0; decide))
  | succ n ih => exact sk_HD_u ih (Or.inr (Or.inl rfl))
theorem sk_inv0 {np nd : Nat} (h1 : 1 ≤ np) (h2 : np ≤ 4) (h3 : 1 ≤ nd) (h4 : nd ≤ 4) : sk_Inv np nd 0 (fun _ => 0) (fun _ => 0) (fun _ => 0) (fun _ => 0) (fun _ => 0) (fun _ => 0) (sk_fill (fun _ => 0) (-1) 128) (fun _ => 0) (fun _ => 0) (fun _ => 0) :=
  ⟨⟨h1, h2⟩, ⟨h3, h4⟩, by omega, fun _ _ => sk_PB_0 fun _ _ => rfl, fun _ _ => rfl, fun _ _ => ⟨0, by omega, nI_0.symm⟩, fun _ _ => ⟨0, by omega, nI_0.symm, fun j hj => by omega⟩, sk_fill_HD 128, fun _ => by show (0 : Int32) ≤ 0; decide, fun _ => by show (0 : Int32) &&& (-33282) = 0; decide, fun _ => by show (0 : Int32) &&& (-33282) = 0; decide⟩
section
variable {np nd es : Nat} {ls et : Int32} {co ca pc ra rb sp mk dp fc fa fb fm sl st lf su pg pn ss ql qs qr hd fl ek ep ev er : Nat → Int32}
theorem sk_I_die {p : Nat} (I : sk_Inv np nd es pg pn ss dp ql qs hd sl mk fm) : sk_Inv np nd es (upd pg p 0) (sk_clr pn (p * 16) 16) (sk_clr ss (p * 16) 16) dp (upd ql p 0) qs hd (upd sl p 0) mk fm := by
  obtain ⟨i1, i2, i3, i4, i5, i6, i7, i8, i9, i10, i11⟩ := I
  exact ⟨i1, i2, i3, sk_PA_c i4, sk_SZ_c i5, i6, sk_QL_0 i7, i8, sk_SL_u i9 (by decide), i10, i11⟩
theorem sk_I_log (I : sk_Inv np nd es pg pn ss dp ql qs hd sl mk fm) : sk_Inv np nd (sk_lgN es) pg pn ss dp ql qs hd sl mk fm := by
  obtain ⟨i1, i2, i3, i4, i5, i6, i7, i8, i9, i10, i11⟩ := I
  exact ⟨i1, i2, sk_lgN_le i3, i4, i5, i6, i7, i8, i9, i10, i11⟩
theorem sk_I_drop {p s : Nat} (hs : s < 16) (I : sk_Inv np nd es pg pn ss dp ql qs hd sl mk fm) : sk_Inv np nd es (upd pg p (pg p &&& (((1 : Int32) <<< (nI s &&& 31)) ^^^ (-1)))) (upd pn (p * 16 + s) 0) (upd ss (p * 16 + s) 0) dp ql qs hd sl mk fm := by
  obtain ⟨i1, i2, i3, i4, i5, i6, i7, i8, i9, i10, i11⟩ := I
  exact ⟨i1, i2, i3, sk_PA_d i4 hs, sk_SZ_d 0 i5, i6, i7, i8, i9, i10, i11⟩
theorem sk_I_mark {p s : Nat} {x : Int32} (h1 : 1 ≤ s) (hs : s < 16) (I : sk_Inv np nd es pg pn ss dp ql qs hd sl mk fm) : sk_Inv np nd es (upd pg p (pg p ||| ((1 : Int32) <<< (nI s &&& 31)))) (upd pn (p * 16 + s) 1) (upd ss (p * 16 + s) x) dp ql qs hd sl mk fm := by
  obtain ⟨i1, i2, i3, i4, i5, i6, i7, i8, i9, i10, i11⟩ := I
  exact ⟨i1, i2, i3, sk_PA_m i4 h1 hs (by decide), sk_SZ_m i5 (by decide), i6, i7, i8, i9, i10, i11⟩
theorem sk_I_enq {p l s : Nat} (hp : p < 4) (hl : l < 8) (e : ql p = nI l) (h1 : 1 ≤ s) (h2 : s < 32) (I : sk_Inv np nd es pg pn ss dp ql qs hd sl mk fm) : sk_Inv np nd es pg pn ss dp (upd ql p (nI (l + 1))) (upd qs (p * 8 + l) (nI s)) hd sl mk fm := by
  obtain ⟨i1, i2, i3, i4, i5, i6, i7, i8, i9, i10, i11⟩ := I
  exact ⟨i1, i2, i3, i4, i5, i6, sk_QL_a hp i7 hl e h1 h2, i8, i9, i10, i11⟩
theorem sk_I_rem {p l j : Nat} (hp : p < 4) (hl : l + 1 ≤ 8) (e : ql p = nI (l + 1)) (hj : j ≤ l) (I : sk_Inv np nd es pg pn ss dp ql qs hd sl mk fm) : sk_Inv np nd es pg pn ss dp (upd ql p (nI l)) (sk_shf qs (p * 8 + j) (l - j)) hd sl mk fm := by
  obtain ⟨i1, i2, i3, i4, i5, i6, i7, i8, i9, i10, i11⟩ := I
  exact ⟨i1, i2, i3, i4, i5, i6, sk_QL_r hp i7 hl e hj, i8, i9, i10, i11⟩
theorem sk_I_dp {p d : Nat} (hd4 : d ≤ 4) (I : sk_Inv np nd es pg pn ss dp ql qs hd sl mk fm) : sk_Inv np nd es pg pn ss (upd dp p (nI d)) ql qs hd sl mk fm := by
  obtain ⟨i1, i2, i3, i4, i5, i6, i7, i8, i9, i10, i11⟩ := I
  exact ⟨i1, i2, i3, i4, i5, sk_DP_u i6 hd4, i7, i8, i9, i10, i11⟩
theorem sk_I_hd {j : Nat} {x : Int32} (hx : x = -2 ∨ x = -1 ∨ 0 ≤ x) (I : sk_Inv np nd es pg pn ss dp ql qs hd sl mk fm) : sk_Inv np nd es pg pn ss dp ql qs (upd hd j x) sl mk fm := by
  obtain ⟨i1, i2, i3, i4, i5, i6, i7, i8, i9, i10, i11⟩ := I
  exact ⟨i1, i2, i3, i4, i5, i6, i7, sk_HD_u i8 hx, i9, i10, i11⟩
theorem sk_I_sl {p : Nat} {x : Int32} (hx : 0 ≤ x) (I : sk_Inv np nd es pg pn ss dp ql qs hd sl mk fm) : sk_Inv np nd es pg pn ss dp ql qs hd (upd sl p x) mk fm := by
  obtain ⟨i1, i2, i3, i4, i5, i6, i7, i8, i9, i10, i11⟩ := I
  exact ⟨i1, i2, i3, i4, i5, i6, i7, i8, sk_SL_u i9 hx, i10, i11⟩
theorem sk_I_mk {p : Nat} {x : Int32} (hx : x &&& (-33282) = x) (I : sk_Inv np nd es pg pn ss dp ql qs hd sl mk fm) : sk_Inv np nd es pg pn ss dp ql qs hd sl (upd mk p x) fm := by
  obtain ⟨i1, i2, i3, i4, i5, i6, i7, i8, i9, i10, i11⟩ := I
  exact ⟨i1, i2, i3, i4, i5, i6, i7, i8, i9, sk_MK_u i10 hx, i11⟩
theorem sk_I_fm {j : Nat} {x : Int32} (hx : x &&& (-33282) = x) (I : sk_Inv np nd es pg pn ss dp ql qs hd sl mk fm) : sk_Inv np nd es pg pn ss dp ql qs hd sl mk (upd fm j x) := by
  obtain ⟨i1, i2, i3, i4, i5, i6, i7, i8, i9, i10, i11⟩ := I
  exact ⟨i1, i2, i3, i4, i5, i6, i7, i8, i9, i10, sk_MK_u i11 hx⟩
theorem sk_I_np (I : sk_Inv np nd es pg pn ss dp ql qs hd sl mk fm) : np ≤ 4 := I.1.2
theorem sk_I_es (I : sk_Inv np nd es pg pn ss dp ql qs hd sl mk fm) : es ≤ 128 := I.2.2.1
theorem sk_I_nd (I : sk_Inv np nd es pg pn ss dp ql qs hd sl mk fm) : nd ≤ 4 := I.2.1.2
end
end
section
section
variable {np nd es : Nat} {ls et : Int32} {co ca pc ra rb sp mk dp fc fa fb fm sl st lf su pg pn ss ql qs qr hd fl ek ep ev er : Nat → Int32}
theorem sx_log {post : SX → Prop} {k p v s : Int32} (hs : es ≤ 128) (h : post (nI np, nI nd, ls, et + 1, nI (sk_lgN es), co, ca, pc, ra, rb, sp, mk, dp, fc, fa, fb, fm, sl, st, lf, su, pg, ss, ql, qs, qr, hd, fl, sk_lgA ek es k, sk_lgA ep es p, sk_lgA ev es v, sk_lgA er es s)) : wpX_logEvent post (nI np, nI nd, ls, et, nI es, co, ca, pc, ra, rb, sp, mk, dp, fc, fa, fb, fm, sl, st, lf, su, pg, ss, ql, qs, qr, hd, fl, ek, ep, ev, er) k p v s := by
  by_cases z : es < 128
  · have e1 : nI es < (128 : Int32) := nI_lt (b := 128) z (by decide)
    have e2 : vp_in (nI es) 128 := vp_in_nI z (by decide)
    have e3 : (nI es).toNatClampNeg = es := nI_clamp (by omega)
    simp only [sk_lgN, sk_lgA, if_pos z] at h
    simp only [wpX_logEvent, e1, e2, e3, nI_1, true_implies, false_implies, not_true_eq_false, not_false_eq_true, and_true, true_and, forall_eq, implies_true]
    exact h
  · have e1 : ¬ nI es < (128 : Int32) := nI_nlt (b := 128) (by omega) (by omega)
    simp only [sk_lgN, sk_lgA, if_neg z] at h
    simp only [wpX_logEvent, e1, true_implies, false_implies, not_true_eq_false, not_false_eq_true, and_true, true_and, forall_eq, implies_true]
    exact h
theorem sx_serial {post : Int32 → SX → Prop} (h : post (ls + 1) (nI np, nI nd, ls + 1, et, nI es, co, ca, pc, ra, rb, sp, mk, dp, fc, fa, fb, fm, sl, st, lf, su, pg, ss, ql, qs, qr, hd, fl, ek, ep, ev, er)) : wpX_issueSerial post (nI np, nI nd, ls, et, nI es, co, ca, pc, ra, rb, sp, mk, dp, fc, fa, fb, fm, sl, st, lf, su, pg, ss, ql, qs, qr, hd, fl, ek, ep, ev, er) := by
  simp only [wpX_issueSerial, true_implies, false_implies, not_true_eq_false, not_false_eq_true, and_true, true_and, forall_eq, implies_true]
  exact h
theorem sx_drop {post : SX → Prop} {p s : Nat} (hp : p < 4) (hs : s < 16) (h : post (nI np, nI nd, ls, et, nI es, co, ca, pc, ra, rb, sp, mk, dp, fc, fa, fb, fm, sl, st, lf, su, upd pg p (pg p &&& (((1 : Int32) <<< (nI s &&& 31)) ^^^ (-1))), upd ss (p * 16 + s) 0, ql, qs, qr, hd, fl, ek, ep, ev, er)) : wpX_dropPending post (nI np, nI nd, ls, et, nI es, co, ca, pc, ra, rb, sp, mk, dp, fc, fa, fb, fm, sl, st, lf, su, pg, ss, ql, qs, qr, hd, fl, ek, ep, ev, er) (nI p) (nI s) := by
  have e1 : vp_in (nI p) 4 := vp_in_nI hp (by decide)
  have e2 : (nI p).toNatClampNeg = p := nI_clamp (by omega)
  have e3 : vp_in (nI (p * 16 + s)) 64 := vp_in_nI (by omega) (by decide)
  have e4 : (nI (p * 16 + s)).toNatClampNeg = p * 16 + s := nI_clamp (by omega)
  simp only [wpX_dropPending, e1, e2, sk_ix16, e3, e4, true_implies, false_implies, not_true_eq_false, not_false_eq_true, and_true, true_and, forall_eq, implies_true]
  exact h
theorem sx_mark1 {post : Int32 → SX → Prop} {p s : Nat} (hp : p < 4) (hs : s < 16) (hz : pg p &&& ((1 : Int32) <<< (nI s &&& 31)) = 0) (h : post (ls + 1) (nI np, nI nd, ls + 1, et, nI es, co, ca, pc, ra, rb, sp, mk, dp, fc, fa, fb, fm, sl, st, lf, su, upd pg p (pg p ||| ((1 : Int32) <<< (nI s &&& 31))), upd ss (p * 16 + s) (ls + 1), ql, qs, qr, hd, fl, ek, ep, ev, er)) : wpX_markPending post (nI np, nI nd, ls, et, nI es, co, ca, pc, ra, rb, sp, mk, dp, fc, fa, fb, fm, sl, st, lf, su, pg, ss, ql, qs, qr, hd, fl, ek, ep, ev, er) (nI p) (nI s) := by
  have e1 : vp_in (nI p) 4 := vp_in_nI hp (by decide)
  have e2 : (nI p).toNatClampNeg = p := nI_clamp (by omega)
  have e3 : vp_in (nI (p * 16 + s)) 64 := vp_in_nI (by omega) (by decide)
  have e4 : (nI (p * 16 + s)).toNatClampNeg = p * 16 + s := nI_clamp (by omega)
  simp only [wpX_markPending, e1, e2, hz, true_implies, false_implies, not_true_eq_false, not_false_eq_true, and_true, true_and, forall_eq, implies_true]
  refine sx_serial ?_
  simp only [e1, e2, sk_ix16, e3, e4, true_implies, false_implies, not_true_eq_false, not_false_eq_true, and_true, true_and, forall_eq, implies_true]
  exact h
theorem sx_mark0 {post : Int32 → SX → Prop} {p s : Nat} (hp : p < 4) (hz : ¬ pg p &&& ((1 : Int32) <<< (nI s &&& 31)) = 0) (h : post 0 (nI np, nI nd, ls, et, nI es, co, ca, pc, ra, rb, sp, mk, dp, fc, fa, fb, fm, sl, st, lf, su, pg, ss, ql, qs, qr, hd, fl, ek, ep, ev, er)) : wpX_markPending post (nI np, nI nd, ls, et, nI es, co, ca, pc, ra, rb, sp, mk, dp, fc, fa, fb, fm, sl, st, lf, su, pg, ss, ql, qs, qr, hd, fl, ek, ep, ev, er) (nI p) (nI s) := by
  have e1 : vp_in (nI p) 4 := vp_in_nI hp (by decide)
  have e2 : (nI p).toNatClampNeg = p := nI_clamp (by omega)
  simp only [wpX_markPending, e1, e2, hz, true_implies, false_implies, not_true_eq_false, not_false_eq_true, and_true, true_and, forall_eq, implies_true]
  exact h
theorem sx_enq {post : Int32 → SX → Prop} {p l s : Nat} (hp : p < 4) (hl : l < 8) (e : ql p = nI l) (h : post (ls + 1) (nI np, nI nd, ls + 1, et, nI es, co, ca, pc, ra, rb, sp, mk, dp, fc, fa, fb, fm, sl, st, lf, su, pg, ss, upd ql p (nI (l + 1)), upd qs (p * 8 + l) (nI s), upd qr (p * 8 + l) (ls + 1), hd, fl, ek, ep, ev, er)) : wpX_enqueue post (nI np, nI nd, ls, et, nI es, co, ca, pc, ra, rb, sp, mk, dp, fc, fa, fb, fm, sl, st, lf, su, pg, ss, ql, qs, qr, hd, fl, ek, ep, ev, er) (nI p) (nI s) := by
  have e1 : vp_in (nI p) 4 := vp_in_nI hp (by decide)
  have e2 : (nI p).toNatClampNeg = p := nI_clamp (by omega)
  have e3 : vp_in (nI (p * 8 + l)) 32 := vp_in_nI (by omega) (by decide)
  have e4 : (nI (p * 8 + l)).toNatClampNeg = p * 8 + l := nI_clamp (by omega)
  simp only [wpX_enqueue]
  refine sx_serial ?_
  simp only [e1, e2, e, sk_ix8, e3, e4, nI_1, true_implies, false_implies, not_true_eq_false, not_false_eq_true, and_true, true_and, forall_eq, implies_true]
  exact h
theorem sx_die_l {post : SX → Prop} {p : Nat} (hp : p < 4) (h : post (nI np, nI nd, ls, et, nI es, co, ca, pc, ra, rb, sp, mk, dp, fc, fa, fb, fm, upd sl p 0, upd st p 0, lf, su, pg, sk_clr ss (p * 16) 16, upd ql p 0, qs, qr, hd, fl, ek, ep, ev, er)) : ∀ d i, i + d = 16 → wX_die_24 post (nI p) (nI np) (nI nd) ls et (nI es) (d + 1) (nI i) co ca pc ra rb sp mk dp fc fa fb fm sl st lf su pg (sk_clr ss (p * 16) i) ql qs qr hd fl ek ep ev er := by
  have e1 : vp_in (nI p) 4 := vp_in_nI hp (by decide)
  have e2 : (nI p).toNatClampNeg = p := nI_clamp (by omega)
  intro d
  induction d with
  | zero =>
    intro i hi
    have hi' : i = 16 := by omega
    subst hi'
    have z : (16 : Int32) ≤ nI 16 := by decide
    rw [wX_die_24]
    simp only [z, e1, e2, sk_nb0, true_implies, false_implies, not_true_eq_false, not_false_eq_true, and_true, true_and, forall_eq, implies_true]
    exact h
  | succ d ih =>
    intro i hi
    have z : ¬ (16 : Int32) ≤ nI i := nI_ge (b := 16) (by omega) (by decide)
    have e3 : vp_in (nI (p * 16 + i)) 64 := vp_in_nI (by omega) (by decide)
    have e4 : (nI (p * 16 + i)).toNatClampNeg = p * 16 + i := nI_clamp (by omega)
    rw [wX_die_24]
    simp only [z, sk_ix16, e3, e4, nI_1, true_implies, false_implies, not_true_eq_false, not_false_eq_true, and_true, true_and, forall_eq, implies_true]
    exact ih (i + 1) (by omega)
theorem sx_die {post : SX → Prop} {p : Nat} {how fs : Int32} (hp : p < 4) (h : post (nI np, nI nd, ls, et, nI es, co, ca, pc, ra, rb, sp, mk, dp, fc, fa, fb, fm, upd sl p 0, upd st p 0, upd lf p how, upd su p fs, upd pg p 0, sk_clr ss (p * 16) 16, upd ql p 0, qs, qr, hd, fl, ek, ep, ev, er)) : wpX_die post (nI np, nI nd, ls, et, nI es, co, ca, pc, ra, rb, sp, mk, dp, fc, fa, fb, fm, sl, st, lf, su, pg, ss, ql, qs, qr, hd, fl, ek, ep, ev, er) (nI p) how fs := by
  have e1 : vp_in (nI p) 4 := vp_in_nI hp (by decide)
  have e2 : (nI p).toNatClampNeg = p := nI_clamp (by omega)
  simp only [wpX_die, e1, e2, true_implies, false_implies, not_true_eq_false, not_false_eq_true, and_true, true_and, forall_eq, implies_true]
  exact ⟨17, sx_die_l hp h 16 0 rfl⟩
theorem sx_term {post : SX → Prop} {p : Nat} {sig ser : Int32} (hp : p < 4) (hs : es ≤ 128) (h : post (nI np, nI nd, ls, et + 1, nI (sk_lgN es), co, ca, pc, ra, rb, sp, mk, dp, fc, fa, fb, fm, upd sl p 0, upd st p 0, upd lf p 4, upd su p sig, upd pg p 0, sk_clr ss (p * 16) 16, upd ql p 0, qs, qr, hd, fl, sk_lgA ek es 2, sk_lgA ep es (nI p), sk_lgA ev es sig, sk_lgA er es ser)) : wpX_terminate post (nI np, nI nd, ls, et, nI es, co, ca, pc, ra, rb, sp, mk, dp, fc, fa, fb, fm, sl, st, lf, su, pg, ss, ql, qs, qr, hd, fl, ek, ep, ev, er) (nI p) sig ser := by
  unfold wpX_terminate
  refine sx_die hp ?_
  refine sx_log hs ?_
  exact h
theorem sx_opp12 {post : SX → Prop} {p : Nat} (hp : p < 4) (h : post (nI np, nI nd, ls, et, nI es, co, ca, pc, ra, rb, sp, mk, dp, fc, fa, fb, fm, sl, st, lf, su, upd pg p (pg p &&& (((1 : Int32) <<< (nI 14 &&& 31)) ^^^ (-1))), upd ss (p * 16 + 14) 0, ql, qs, qr, hd, fl, ek, ep, ev, er)) : wpX_dropOpposites post (nI np, nI nd, ls, et, nI es, co, ca, pc, ra, rb, sp, mk, dp, fc, fa, fb, fm, sl, st, lf, su, pg, ss, ql, qs, qr, hd, fl, ek, ep, ev, er) (nI p) 12 := by
  unfold wpX_dropOpposites
  refine br_t rfl ?_
  unfold wX_dropOpposites_12
  refine sx_drop (s := 14) hp (by decide) ?_
  exact br_f (by decide) h
theorem sx_opp15 {post : SX → Prop} {p : Nat} (hp : p < 4) (h : post (nI np, nI nd, ls, et, nI es, co, ca, pc, ra, rb, sp, mk, dp, fc, fa, fb, fm, sl, st, lf, su, upd pg p (pg p &&& (((1 : Int32) <<< (nI 14 &&& 31)) ^^^ (-1))), upd ss (p * 16 + 14) 0, ql, qs, qr, hd, fl, ek, ep, ev, er)) : wpX_dropOpposites post (nI np, nI nd, ls, et, nI es, co, ca, pc, ra, rb, sp, mk, dp, fc, fa, fb, fm, sl, st, lf, su, pg, ss, ql, qs, qr, hd, fl, ek, ep, ev, er) (nI p) 15 := by
  unfold wpX_dropOpposites
  refine br_f (by decide) (br_t rfl ?_)
  unfold wX_dropOpposites_12
  refine sx_drop (s := 14) hp (by decide) ?_
  exact br_f (by decide) h
theorem sx_oppN {post : SX → Prop} {p g : Nat} (hg : g < 32) (h12 : g ≠ 12) (h14 : g ≠ 14) (h15 : g ≠ 15) (h : post (nI np, nI nd, ls, et, nI es, co, ca, pc, ra, rb, sp, mk, dp, fc, fa, fb, fm, sl, st, lf, su, pg, ss, ql, qs, qr, hd, fl, ek, ep, ev, er)) : wpX_dropOpposites post (nI np, nI nd, ls, et, nI es, co, ca, pc, ra, rb, sp, mk, dp, fc, fa, fb, fm, sl, st, lf, su, pg, ss, ql, qs, qr, hd, fl, ek, ep, ev, er) (nI p) (nI g) := by
  have a1 : ¬ nI g = 12 := fun z => h12 ((nI_eq (b := 12) (by omega) (by decide)).mp z)
  have a2 : ¬ nI g = 14 := fun z => h14 ((nI_eq (b := 14) (by omega) (by decide)).mp z)
  have a3 : ¬ nI g = 15 := fun z => h15 ((nI_eq (b := 15) (by omega) (by decide)).mp z)
  unfold wpX_dropOpposites
  refine br_f a1 (br_f a3 ?_)
  exact br_f a2 h
theorem sx_remove_l {post : SX → Prop} {p l j : Nat} (hp : p < 4) (hl : l + 1 ≤ 8) (h : post (nI np, nI nd, ls, et, nI es, co, ca, pc, ra, rb, sp, mk, dp, fc, fa, fb, fm, sl, st, lf, su, pg, ss, upd ql p (nI l), sk_shf qs (p * 8 + j) (l - j), sk_shf qr (p * 8 + j) (l - j), hd, fl, ek, ep, ev, er)) : ∀ d i, j + i + d = l → wX_removeEntry_18 post (nI p) (nI (p * 8)) (nI l) (nI np) (nI nd) ls et (nI es) (d + 1) (nI (j + i)) co ca pc ra rb sp mk dp fc fa fb fm sl st lf su pg ss ql (sk_shf qs (p * 8 + j) i) (sk_shf qr (p * 8 + j) i) hd fl ek ep ev er := by
  have e1 : vp_in (nI p) 4 := vp_in_nI hp (by decide)
  have e2 : (nI p).toNatClampNeg = p := nI_clamp (by omega)
  intro d
  induction d with
  | zero =>
    intro i hi
    have hi' : i = l - j := by omega
    subst hi'
    have z : nI l ≤ nI (j + (l - j)) := nI_le (by omega) (by omega)
    rw [wX_removeEntry_18]
    simp only [z, e1, e2, true_implies, false_implies, not_true_eq_false, not_false_eq_true, and_true, true_and, forall_eq, implies_true]
    exact h
  | succ d ih =>
    intro i hi
    have z : ¬ nI l ≤ nI (j + i) := nI_ge (by omega) (by omega)
    have e3 : vp_in (nI (p * 8 + j + i)) 32 := vp_in_nI (by omega) (by decide)
    have e4 : (nI (p * 8 + j + i)).toNatClampNeg = p * 8 + j + i := nI_clamp (by omega)
    have e5 : vp_in (nI (p * 8 + j + i + 1)) 32 := vp_in_nI (by omega) (by decide)
    have e6 : (nI (p * 8 + j + i + 1)).toNatClampNeg = p * 8 + j + i + 1 := nI_clamp (by omega)
    have e7 : nI (p * 8) + nI (j + i) = nI (p * 8 + j + i) := by rw [nI_add, Nat.add_assoc]
    rw [wX_removeEntry_18]
    simp only [z, e7, nI_1, e3, e4, e5, e6, true_implies, false_implies, not_true_eq_false, not_false_eq_true, and_true, true_and, forall_eq, implies_true]
    exact ih (i + 1) (by omega)
theorem sx_remove {post : SX → Prop} {p l j : Nat} (hp : p < 4) (hl : l + 1 ≤ 8) (e : ql p = nI (l + 1)) (hj : j ≤ l) (h : post (nI np, nI nd, ls, et, nI es, co, ca, pc, ra, rb, sp, mk, dp, fc, fa, fb, fm, sl, st, lf, su, pg, ss, upd ql p (nI l), sk_shf qs (p * 8 + j) (l - j), sk_shf qr (p * 8 + j) (l - j), hd, fl, ek, ep, ev, er)) : wpX_removeEntry post (nI np, nI nd, ls, et, nI es, co, ca, pc, ra, rb, sp, mk, dp, fc, fa, fb, fm, sl, st, lf, su, pg, ss, ql, qs, qr, hd, fl, ek, ep, ev, er) (nI p) (nI j) := by
  have e1 : vp_in (nI p) 4 := vp_in_nI hp (by decide)
  have e2 : (nI p).toNatClampNeg = p := nI_clamp (by omega)
  have e3 : nI p * 8 = nI (p * 8) := pk_mul p 8
  simp only [wpX_removeEntry, e1, e2, e, e3, nI_pred, true_implies, false_implies, not_true_eq_false, not_false_eq_true, and_true, true_and, forall_eq, implies_true]
  exact ⟨l - j + 1, sx_remove_l hp hl h (l - j) 0 (by omega)⟩
/-- a pending word joined with the queue's first n signals -/
def sk_orq (m : Int32) (qs : Nat → Int32) (b : Nat) : Nat → Int32
  | 0 => m
  | n + 1 => sk_orq m qs b n ||| ((1 : Int32) <<< (qs (b + n) &&& 31))
theorem sx_allp_l {post : Int32 → Prop} {p l : Nat} (hp : p < 4) (hl : l ≤ 8) (e : ql p = nI l) (m : Int32) (h : post (sk_orq m qs (p * 8) l)) : ∀ d i, i + d = l → wX_allPending_9 post (nI p) (nI np) (nI nd) ls et (nI es) co ca pc ra rb sp mk dp fc fa fb fm sl st lf su pg ss ql qs qr hd fl ek ep ev er (d + 1) (sk_orq m qs (p * 8) i) (nI i) := by
  have e1 : vp_in (nI p) 4 := vp_in_nI hp (by decide)
  have e2 : (nI p).toNatClampNeg = p := nI_clamp (by omega)
  intro d
  induction d with
  | zero =>
    intro i hi
    have hi' : i = l := by omega
    subst hi'
    have z : nI i ≤ nI i := nI_le (by omega) (by omega)
    rw [wX_allPending_9]
    simp only [e1, e2, e, z, true_implies, false_implies, not_true_eq_false, not_false_eq_true, and_true, true_and, forall_eq, implies_true]
    exact h
  | succ d ih =>
    intro i hi
    have z : ¬ nI l ≤ nI i := nI_ge (by omega) (by omega)
    have e3 : vp_in (nI (p * 8 + i)) 32 := vp_in_nI (by omega) (by decide)
    have e4 : (nI (p * 8 + i)).toNatClampNeg = p * 8 + i := nI_clamp (by omega)
    rw [wX_allPending_9]
    simp only [e1, e2, e, z, sk_ix8, e3, e4, nI_1, true_implies, false_implies, not_true_eq_false, not_false_eq_true, and_true, true_and, forall_eq, implies_true]
    exact ih (i + 1) (by omega)
theorem sx_allp {post : Int32 → Prop} {p l : Nat} (hp : p < 4) (hl : l ≤ 8) (e : ql p = nI l) (h : post (sk_orq (pg p) qs (p * 8) l)) : wpX_allPending post (nI np, nI nd, ls, et, nI es, co, ca, pc, ra, rb, sp, mk, dp, fc, fa, fb, fm, sl, st, lf, su, pg, ss, ql, qs, qr, hd, fl, ek, ep, ev, er) (nI p) := by
  have e1 : vp_in (nI p) 4 := vp_in_nI hp (by decide)
  have e2 : (nI p).toNatClampNeg = p := nI_clamp (by omega)
  simp only [wpX_allPending, e1, e2, true_implies, false_implies, not_true_eq_false, not_false_eq_true, and_true, true_and, forall_eq, implies_true]
  exact ⟨l + 1, sx_allp_l hp hl e (pg p) h l 0 (by omega)⟩
theorem sx_low_l {post : Int32 → Prop} {x : Int32} {g : Nat} (hg : g < 16) (hx : ¬ x &&& ((1 : Int32) <<< (nI g &&& 31)) = 0) (h : post (nI g)) : ∀ d i, i + d = g → (∀ j, i ≤ j → j < g → x &&& ((1 : Int32) <<< (nI j &&& 31)) = 0) → wX_lowestDeliverable_18 post x (nI np) (nI nd) ls et (nI es) co ca pc ra rb sp mk dp fc fa fb fm sl st lf su pg ss ql qs qr hd fl ek ep ev er (d + 1) (nI i) := by
  intro d
  induction d with
  | zero =>
    intro i hi _
    have hi' : i = g := by omega
    subst hi'
    have z : ¬ (16 : Int32) ≤ nI i := nI_ge (b := 16) (by omega) (by decide)
    rw [wX_lowestDeliverable_18]
    exact br_f z (br_f hx h)
  | succ d ih =>
    intro i hi hj
    have z : ¬ (16 : Int32) ≤ nI i := nI_ge (b := 16) (by omega) (by decide)
    rw [wX_lowestDeliverable_18]
    refine br_f z (br_t (hj i (by omega) (by omega)) (nm_r (nI_1 i) ?_))
    exact ih (i + 1) (by omega) fun j h1 h2 => hj j (by omega) h2
theorem sx_low0_l {post : Int32 → Prop} {x : Int32} (h : post 0) : ∀ d i, i + d = 16 → (∀ j, i ≤ j → j < 16 → x &&& ((1 : Int32) <<< (nI j &&& 31)) = 0) → wX_lowestDeliverable_18 post x (nI np) (nI nd) ls et (nI es) co ca pc ra rb sp mk dp fc fa fb fm sl st lf su pg ss ql qs qr hd fl ek ep ev er (d + 1) (nI i) := by
  intro d
  induction d with
  | zero =>
    intro i hi _
    have hi' : i = 16 := by omega
    subst hi'
    rw [wX_lowestDeliverable_18]
    exact br_t (by decide) h
  | succ d ih =>
    intro i hi hj
    have z : ¬ (16 : Int32) ≤ nI i := nI_ge (b := 16) (by omega) (by decide)
    rw [wX_lowestDeliverable_18]
    refine br_f z (br_t (hj i (by omega) (by omega)) (nm_r (nI_1 i) ?_))
    exact ih (i + 1) (by omega) fun j h1 h2 => hj j (by omega) h2
theorem sx_low {post : Int32 → Prop} {p g : Nat} (hp : p < 4) (h1 : 1 ≤ g) (hg : g < 16) (hx : ¬ (pg p &&& (mk p ^^^ (-1))) &&& ((1 : Int32) <<< (nI g &&& 31)) = 0) (hj : ∀ j, 1 ≤ j → j < g → (pg p &&& (mk p ^^^ (-1))) &&& ((1 : Int32) <<< (nI j &&& 31)) = 0) (h : post (nI g)) : wpX_lowestDeliverable post (nI np, nI nd, ls, et, nI es, co, ca, pc, ra, rb, sp, mk, dp, fc, fa, fb, fm, sl, st, lf, su, pg, ss, ql, qs, qr, hd, fl, ek, ep, ev, er) (nI p) := by
  have e1 : vp_in (nI p) 4 := vp_in_nI hp (by decide)
  have e2 : (nI p).toNatClampNeg = p := nI_clamp (by omega)
  simp only [wpX_lowestDeliverable, e1, e2, true_implies, false_implies, not_true_eq_false, not_false_eq_true, and_true, true_and, forall_eq, implies_true]
  exact ⟨g - 1 + 1, sx_low_l hg hx h (g - 1) 1 (by omega) hj⟩
theorem sx_low0 {post : Int32 → Prop} {p : Nat} (hp : p < 4) (hj : ∀ j, 1 ≤ j → j < 16 → (pg p &&& (mk p ^^^ (-1))) &&& ((1 : Int32) <<< (nI j &&& 31)) = 0) (h : post 0) : wpX_lowestDeliverable post (nI np, nI nd, ls, et, nI es, co, ca, pc, ra, rb, sp, mk, dp, fc, fa, fb, fm, sl, st, lf, su, pg, ss, ql, qs, qr, hd, fl, ek, ep, ev, er) (nI p) := by
  have e1 : vp_in (nI p) 4 := vp_in_nI hp (by decide)
  have e2 : (nI p).toNatClampNeg = p := nI_clamp (by omega)
  simp only [wpX_lowestDeliverable, e1, e2, true_implies, false_implies, not_true_eq_false, not_false_eq_true, and_true, true_and, forall_eq, implies_true]
  exact ⟨16, sx_low0_l h 15 1 (by omega) hj⟩
theorem sx_ear_l {post : Int32 → Prop} {p l g : Nat} (hp : p < 4) (hl : l ≤ 8) (e : ql p = nI l) (hg : g < l) (hx : mk p &&& ((1 : Int32) <<< (qs (p * 8 + g) &&& 31)) = 0) (h : post (nI g)) : ∀ d i, i + d = g → (∀ j, i ≤ j → j < g → ¬ mk p &&& ((1 : Int32) <<< (qs (p * 8 + j) &&& 31)) = 0) → wX_earliestDeliverable_2 post (nI p) (nI np) (nI nd) ls et (nI es) co ca pc ra rb sp mk dp fc fa fb fm sl st lf su pg ss ql qs qr hd fl ek ep ev er (d + 1) (nI i) := by
  have e1 : vp_in (nI p) 4 := vp_in_nI hp (by decide)
  have e2 : (nI p).toNatClampNeg = p := nI_clamp (by omega)
  intro d
  induction d with
  | zero =>
    intro i hi _
    have hi' : i = g := by omega
    subst hi'
    have z : ¬ nI l ≤ nI i := nI_ge (by omega) (by omega)
    have e3 : vp_in (nI (p * 8 + i)) 32 := vp_in_nI (by omega) (by decide)
    have e4 : (nI (p * 8 + i)).toNatClampNeg = p * 8 + i := nI_clamp (by omega)
    rw [wX_earliestDeliverable_2]
    simp only [e1, e2, e, z, sk_ix8, e3, e4, hx, true_implies, false_implies, not_true_eq_false, not_false_eq_true, and_true, true_and, forall_eq, implies_true]
    exact h
  | succ d ih =>
    intro i hi hj
    have z : ¬ nI l ≤ nI i := nI_ge (by omega) (by omega)
    have e3 : vp_in (nI (p * 8 + i)) 32 := vp_in_nI (by omega) (by decide)
    have e4 : (nI (p * 8 + i)).toNatClampNeg = p * 8 + i := nI_clamp (by omega)
    have e5 := hj i (by omega) (by omega)
    rw [wX_earliestDeliverable_2]
    simp only [e1, e2, e, z, sk_ix8, e3, e4, e5, nI_1, true_implies, false_implies, not_true_eq_false, not_false_eq_true, and_true, true_and, forall_eq, implies_true]
    exact ih (i + 1) (by omega) fun j h1 h2 => hj j (by omega) h2
theorem sx_ear0_l {post : Int32 → Prop} {p l : Nat} (hp : p < 4) (hl : l ≤ 8) (e : ql p = nI l) (h : post (-1)) : ∀ d i, i + d = l → (∀ j, i ≤ j → j < l → ¬ mk p &&& ((1 : Int32) <<< (qs (p * 8 + j) &&& 31)) = 0) → wX_earliestDeliverable_2 post (nI p) (nI np) (nI nd) ls et (nI es) co ca pc ra rb sp mk dp fc fa fb fm sl st lf su pg ss ql qs qr hd fl ek ep ev er (d + 1) (nI i) := by
  have e1 : vp_in (nI p) 4 := vp_in_nI hp (by decide)
  have e2 : (nI p).toNatClampNeg = p := nI_clamp (by omega)
  intro d
  induction d with
  | zero =>
    intro i hi _
    have hi' : i = l := by omega
    subst hi'
    have z : nI i ≤ nI i := nI_le (by omega) (by omega)
    rw [wX_earliestDeliverable_2]
    simp only [e1, e2, e, z, true_implies, false_implies, not_true_eq_false, not_false_eq_true, and_true, true_and, forall_eq, implies_true]
    exact h
  | succ d ih =>
    intro i hi hj
    have z : ¬ nI l ≤ nI i := nI_ge (by omega) (by omega)
    have e3 : vp_in (nI (p * 8 + i)) 32 := vp_in_nI (by omega) (by decide)
    have e4 : (nI (p * 8 + i)).toNatClampNeg = p * 8 + i := nI_clamp (by omega)
    have e5 := hj i (by omega) (by omega)
    rw [wX_earliestDeliverable_2]
    simp only [e1, e2, e, z, sk_ix8, e3, e4, e5, nI_1, true_implies, false_implies, not_true_eq_false, not_false_eq_true, and_true, true_and, forall_eq, implies_true]
    exact ih (i + 1) (by omega) fun j h1 h2 => hj j (by omega) h2
end
end
section
section
variable {np nd es : Nat} {ls et : Int32} {co ca pc ra rb sp mk dp fc fa fb fm sl st lf su pg pn ss ql qs qr hd fl ek ep ev er : Nat → Int32}
theorem sy_log {post : SY → Prop} {k p v s : Int32} (hs : es ≤ 128) (h : post (nI np, nI nd, ls, et + 1, nI (sk_lgN es), co, ca, pc, ra, rb, sp, mk, dp, sl, lf, su, ql, st, pn, ss, qs, qr, hd, fl, fc, fa, fb, fm, sk_lgA ek es k, sk_lgA ep es p, sk_lgA ev es v, sk_lgA er es s)) : wpY_log post (nI np, nI nd, ls, et, nI es, co, ca, pc, ra, rb, sp, mk, dp, sl, lf, su, ql, st, pn, ss, qs, qr, hd, fl, fc, fa, fb, fm, ek, ep, ev, er) k p v s := by
  by_cases z : es < 128
  · have e1 : ¬ (128 : Int32) ≤ nI es := nI_ge (b := 128) z (by decide)
    have e2 : vp_in (nI es) 128 := vp_in_nI z (by decide)
    have e3 : (nI es).toNatClampNeg = es := nI_clamp (by omega)
    simp only [sk_lgN, sk_lgA, if_pos z] at h
    simp only [wpY_log, e1, e2, e3, nI_1, true_implies, false_implies, not_true_eq_false, not_false_eq_true, and_true, true_and, forall_eq, implies_true]
    exact h
  · have e1 : (128 : Int32) ≤ nI es := nI_le (a := 128) (by omega) (by omega)
    simp only [sk_lgN, sk_lgA, if_neg z] at h
    simp only [wpY_log, e1, true_implies, false_implies, not_true_eq_false, not_false_eq_true, and_true, true_and, forall_eq, implies_true]
    exact h
theorem sy_serial {post : Int32 → SY → Prop} (h : post (ls + 1) (nI np, nI nd, ls + 1, et, nI es, co, ca, pc, ra, rb, sp, mk, dp, sl, lf, su, ql, st, pn, ss, qs, qr, hd, fl, fc, fa, fb, fm, ek, ep, ev, er)) : wpY_newSerial post (nI np, nI nd, ls, et, nI es, co, ca, pc, ra, rb, sp, mk, dp, sl, lf, su, ql, st, pn, ss, qs, qr, hd, fl, fc, fa, fb, fm, ek, ep, ev, er) := by
  simp only [wpY_newSerial, true_implies, false_implies, not_true_eq_false, not_false_eq_true, and_true, true_and, forall_eq, implies_true]
  exact h
theorem sy_drop {post : SY → Prop} {p s : Nat} (hp : p < 4) (hs : s < 16) (h : post (nI np, nI nd, ls, et, nI es, co, ca, pc, ra, rb, sp, mk, dp, sl, lf, su, ql, st, upd pn (p * 16 + s) 0, upd ss (p * 16 + s) 0, qs, qr, hd, fl, fc, fa, fb, fm, ek, ep, ev, er)) : wpY_drop post (nI np, nI nd, ls, et, nI es, co, ca, pc, ra, rb, sp, mk, dp, sl, lf, su, ql, st, pn, ss, qs, qr, hd, fl, fc, fa, fb, fm, ek, ep, ev, er) (nI p) (nI s) := by
  have e3 : vp_in (nI (p * 16 + s)) 64 := vp_in_nI (by omega) (by decide)
  have e4 : (nI (p * 16 + s)).toNatClampNeg = p * 16 + s := nI_clamp (by omega)
  simp only [wpY_drop, sk_ix16, e3, e4, sk_nb0, true_implies, false_implies, not_true_eq_false, not_false_eq_true, and_true, true_and, forall_eq, implies_true]
  exact h
theorem sy_die_l {post : SY → Prop} {p : Nat} (hp : p < 4) (h : post (nI np, nI nd, ls, et, nI es, co, ca, pc, ra, rb, sp, mk, dp, upd sl p 0, lf, su, upd ql p 0, upd st p 0, sk_clr pn (p * 16) 16, sk_clr ss (p * 16) 16, qs, qr, hd, fl, fc, fa, fb, fm, ek, ep, ev, er)) : ∀ d i, i + d = 16 → wY_die_17 post (nI p) (nI np) (nI nd) ls et (nI es) (d + 1) (nI i) co ca pc ra rb sp mk dp sl lf su ql st (sk_clr pn (p * 16) i) (sk_clr ss (p * 16) i) qs qr hd fl fc fa fb fm ek ep ev er := by
  have e1 : vp_in (nI p) 4 := vp_in_nI hp (by decide)
  have e2 : (nI p).toNatClampNeg = p := nI_clamp (by omega)
  intro d
  induction d with
  | zero =>
    intro i hi
    have hi' : i = 16 := by omega
    subst hi'
    have z : (16 : Int32) ≤ nI 16 := by decide
    rw [wY_die_17]
    simp only [z, e1, e2, sk_nb0, true_implies, false_implies, not_true_eq_false, not_false_eq_true, and_true, true_and, forall_eq, implies_true]
    exact h
  | succ d ih =>
    intro i hi
    have z : ¬ (16 : Int32) ≤ nI i := nI_ge (b := 16) (by omega) (by decide)
    have e3 : vp_in (nI (p * 16 + i)) 64 := vp_in_nI (by omega) (by decide)
    have e4 : (nI (p * 16 + i)).toNatClampNeg = p * 16 + i := nI_clamp (by omega)
    rw [wY_die_17]
    simp only [z, sk_ix16, e3, e4, nI_1, sk_nb0, true_implies, false_implies, not_true_eq_false, not_false_eq_true, and_true, true_and, forall_eq, implies_true]
    exact ih (i + 1) (by omega)
theorem sy_die {post : SY → Prop} {p : Nat} {how fs : Int32} (hp : p < 4) (h : post (nI np, nI nd, ls, et, nI es, co, ca, pc, ra, rb, sp, mk, dp, upd sl p 0, upd lf p how, upd su p fs, upd ql p 0, upd st p 0, sk_clr pn (p * 16) 16, sk_clr ss (p * 16) 16, qs, qr, hd, fl, fc, fa, fb, fm, ek, ep, ev, er)) : wpY_die post (nI np, nI nd, ls, et, nI es, co, ca, pc, ra, rb, sp, mk, dp, sl, lf, su, ql, st, pn, ss, qs, qr, hd, fl, fc, fa, fb, fm, ek, ep, ev, er) (nI p) how fs := by
  have e1 : vp_in (nI p) 4 := vp_in_nI hp (by decide)
  have e2 : (nI p).toNatClampNeg = p := nI_clamp (by omega)
  simp only [wpY_die, e1, e2, true_implies, false_implies, not_true_eq_false, not_false_eq_true, and_true, true_and, forall_eq, implies_true]
  exact ⟨17, sy_die_l hp h 16 0 rfl⟩
theorem sy_rem_l {post : Int32 → SY → Prop} {J : Int32 → Int32 → Int32 → (Nat → Int32) → (Nat → Int32) → (Nat → Int32) → (Nat → Int32) → (Nat → Int32) → (Nat → Int32) → (Nat → Int32) → (Nat → Int32) → (Nat → Int32) → (Nat → Int32) → (Nat → Int32) → (Nat → Int32) → (Nat → Int32) → (Nat → Int32) → (Nat → Int32) → (Nat → Int32) → (Nat → Int32) → (Nat → Int32) → (Nat → Int32) → (Nat → Int32) → (Nat → Int32) → (Nat → Int32) → (Nat → Int32) → (Nat → Int32) → (Nat → Int32) → (Nat → Int32) → (Nat → Int32) → Prop} {x2 x3 x4 : Int32} {p l j : Nat} (hp : p < 4) (hl : l + 1 ≤ 8) (e : ql p = nI (l + 1)) (h : J x2 x3 (x4 + 1) co ca pc ra rb sp mk dp sl lf su (upd ql p (nI l)) st pn ss (sk_shf qs (p * 8 + j) (l - j)) (sk_shf qr (p * 8 + j) (l - j)) hd fl fc fa fb fm ek ep ev er) : ∀ d i, j + i + d = l → wY_deliver_148 post J (nI p) x2 x3 x4 (nI np) (nI nd) ls et (nI es) (d + 1) (nI (j + i)) co ca pc ra rb sp mk dp sl lf su ql st pn ss (sk_shf qs (p * 8 + j) i) (sk_shf qr (p * 8 + j) i) hd fl fc fa fb fm ek ep ev er := by
  have e1 : vp_in (nI p) 4 := vp_in_nI hp (by decide)
  have e2 : (nI p).toNatClampNeg = p := nI_clamp (by omega)
  intro d
  induction d with
  | zero =>
    intro i hi
    have hi' : i = l - j := by omega
    subst hi'
    have z : nI (l + 1) ≤ nI (j + (l - j) + 1) := nI_le (by omega) (by omega)
    rw [wY_deliver_148]
    simp only [e1, e2, e, nI_1, z, nI_pred, true_implies, false_implies, not_true_eq_false, not_false_eq_true, and_true, true_and, forall_eq, implies_true]
    exact h
  | succ d ih =>
    intro i hi
    have z : ¬ nI (l + 1) ≤ nI (j + i + 1) := nI_ge (by omega) (by omega)
    have e3 : vp_in (nI (p * 8 + j + i)) 32 := vp_in_nI (by omega) (by decide)
    have e4 : (nI (p * 8 + j + i)).toNatClampNeg = p * 8 + j + i := nI_clamp (by omega)
    have e5 : vp_in (nI (p * 8 + j + i + 1)) 32 := vp_in_nI (by omega) (by decide)
    have e6 : (nI (p * 8 + j + i + 1)).toNatClampNeg = p * 8 + j + i + 1 := nI_clamp (by omega)
    have e7 : nI p * 8 + nI (j + i) = nI (p * 8 + j + i) := by rw [sk_ix8, Nat.add_assoc]
    rw [wY_deliver_148]
    simp only [e1, e2, e, e7, nI_1, z, e3, e4, e5, e6, true_implies, false_implies, not_true_eq_false, not_false_eq_true, and_true, true_and, forall_eq, implies_true]
    exact ih (i + 1) (by omega)
theorem sy_79_skip {post : Int32 → SY → Prop} {x2 s x4 : Int32} {p n : Nat} (hp : p < 4) (hg : ¬ x2 = 0) (h : wY_deliver_235 post (nI p) x2 s (nI np) (nI nd) ls et (nI es) co ca pc ra rb sp mk dp sl lf su ql st pn ss qs qr hd fl fc fa fb fm ek ep ev er) : wY_deliver_79 post (nI p) (nI np) (nI nd) ls et (nI es) (n + 1) x2 s x4 co ca pc ra rb sp mk dp sl lf su ql st pn ss qs qr hd fl fc fa fb fm ek ep ev er := by
  have e1 : vp_in (nI p) 4 := vp_in_nI hp (by decide)
  have e2 : (nI p).toNatClampNeg = p := nI_clamp (by omega)
  rw [wY_deliver_79]
  exact ⟨e1, br_c (fun _ => h) fun _ => br_f hg h⟩
theorem sy_79_found {post : Int32 → SY → Prop} {s : Int32} {p l j g : Nat} (hp : p < 4) (hl : l + 1 ≤ 8) (e : ql p = nI (l + 1)) (hj : j ≤ l) (hg : 1 ≤ g) (hg2 : g < 32) (hq : qs (p * 8 + j) = nI g) (hx : mk p &&& ((1 : Int32) <<< (qs (p * 8 + j) &&& 31)) = 0) (h : wY_deliver_235 post (nI p) (nI g) (qr (p * 8 + j)) (nI np) (nI nd) ls et (nI es) co ca pc ra rb sp mk dp sl lf su (upd ql p (nI l)) st pn ss (sk_shf qs (p * 8 + j) (l - j)) (sk_shf qr (p * 8 + j) (l - j)) hd fl fc fa fb fm ek ep ev er) : ∀ d i, i + d = j → (∀ k, i ≤ k → k < j → ¬ mk p &&& ((1 : Int32) <<< (qs (p * 8 + k) &&& 31)) = 0) → wY_deliver_79 post (nI p) (nI np) (nI nd) ls et (nI es) (d + 2) 0 s (nI i) co ca pc ra rb sp mk dp sl lf su ql st pn ss qs qr hd fl fc fa fb fm ek ep ev er := by
  have e1 : vp_in (nI p) 4 := vp_in_nI hp (by decide)
  have e2 : (nI p).toNatClampNeg = p := nI_clamp (by omega)
  intro d
  induction d with
  | zero =>
    intro i hi _
    have hi' : i = j := by omega
    subst hi'
    have z : ¬ nI (l + 1) ≤ nI i := nI_ge (by omega) (by omega)
    have e3 : vp_in (nI (p * 8 + i)) 32 := vp_in_nI (by omega) (by decide)
    have e4 : (nI (p * 8 + i)).toNatClampNeg = p * 8 + i := nI_clamp (by omega)
    rw [wY_deliver_79]
    simp only [e1, e2, e, z, sk_ix8, e3, e4, hx, true_implies, false_implies, not_true_eq_false, not_false_eq_true, and_true, true_and, forall_eq, implies_true]
    rw [hq]
    exact ⟨l - i + 1, sy_rem_l hp hl e (sy_79_skip hp (nI_ne0 hg (by omega)) h) (l - i) 0 (by omega)⟩
  | succ d ih =>
    intro i hi hk
    have z : ¬ nI (l + 1) ≤ nI i := nI_ge (by omega) (by omega)
    have e3 : vp_in (nI (p * 8 + i)) 32 := vp_in_nI (by omega) (by decide)
    have e4 : (nI (p * 8 + i)).toNatClampNeg = p * 8 + i := nI_clamp (by omega)
    have e5 := hk i (by omega) (by omega)
    rw [wY_deliver_79]
    simp only [e1, e2, e, z, sk_ix8, e3, e4, e5, nI_1, true_implies, false_implies, not_true_eq_false, not_false_eq_true, and_true, true_and, forall_eq, implies_true]
    exact ih (i + 1) (by omega) fun k h1 h2 => hk k (by omega) h2
theorem sy_79_none {post : Int32 → SY → Prop} {s : Int32} {p l : Nat} (hp : p < 4) (hl : l ≤ 8) (e : ql p = nI l) (h : wY_deliver_235 post (nI p) 0 s (nI np) (nI nd) ls et (nI es) co ca pc ra rb sp mk dp sl lf su ql st pn ss qs qr hd fl fc fa fb fm ek ep ev er) : ∀ d i, i + d = l → (∀ k, i ≤ k → k < l → ¬ mk p &&& ((1 : Int32) <<< (qs (p * 8 + k) &&& 31)) = 0) → wY_deliver_79 post (nI p) (nI np) (nI nd) ls et (nI es) (d + 1) 0 s (nI i) co ca pc ra rb sp mk dp sl lf su ql st pn ss qs qr hd fl fc fa fb fm ek ep ev er := by
  have e1 : vp_in (nI p) 4 := vp_in_nI hp (by decide)
  have e2 : (nI p).toNatClampNeg = p := nI_clamp (by omega)
  intro d
  induction d with
  | zero =>
    intro i hi _
    have hi' : i = l := by omega
    subst hi'
    have z : nI i ≤ nI i := nI_le (by omega) (by omega)
    rw [wY_deliver_79]
    simp only [e1, e2, e, z, true_implies, false_implies, not_true_eq_false, not_false_eq_true, and_true, true_and, forall_eq, implies_true]
    exact h
  | succ d ih =>
    intro i hi hk
    have z : ¬ nI l ≤ nI i := nI_ge (by omega) (by omega)
    have e3 : vp_in (nI (p * 8 + i)) 32 := vp_in_nI (by omega) (by decide)
    have e4 : (nI (p * 8 + i)).toNatClampNeg = p * 8 + i := nI_clamp (by omega)
    have e5 := hk i (by omega) (by omega)
    rw [wY_deliver_79]
    simp only [e1, e2, e, z, sk_ix8, e3, e4, e5, nI_1, true_implies, false_implies, not_true_eq_false, not_false_eq_true, and_true, true_and, forall_eq, implies_true]
    exact ih (i + 1) (by omega) fun k h1 h2 => hk k (by omega) h2
theorem sy_7_found {post : Int32 → SY → Prop} {p g : Nat} (hp : p < 4) (hg : 1 ≤ g) (hg2 : g < 16) (hn : ¬ pn (p * 16 + g) = 0) (hx : mk p &&& ((1 : Int32) <<< (nI g &&& 31)) = 0) (h : wY_deliver_235 post (nI p) (nI g) (ss (p * 16 + g)) (nI np) (nI nd) ls et (nI es) co ca pc ra rb sp mk dp sl lf su ql st (upd pn (p * 16 + g) 0) (upd ss (p * 16 + g) 0) qs qr hd fl fc fa fb fm ek ep ev er) : ∀ d i, i + d = g → (∀ k, i ≤ k → k < g → pn (p * 16 + k) = 0 ∨ ¬ mk p &&& ((1 : Int32) <<< (nI k &&& 31)) = 0) → wY_deliver_7 post (nI p) (d + 2) 0 0 (nI i) (nI np) (nI nd) ls et (nI es) co ca pc ra rb sp mk dp sl lf su ql st pn ss qs qr hd fl fc fa fb fm ek ep ev er := by
  have e1 : vp_in (nI p) 4 := vp_in_nI hp (by decide)
  have e2 : (nI p).toNatClampNeg = p := nI_clamp (by omega)
  have hg0 : ¬ nI g = 0 := nI_ne0 hg (by omega)
  intro d
  induction d with
  | zero =>
    intro i hi _
    have hi' : i = g := by omega
    subst hi'
    have z : ¬ (15 : Int32) < nI i := nI_nlt (a := 15) (by omega) (by decide)
    have e3 : vp_in (nI (p * 16 + i)) 64 := vp_in_nI (by omega) (by decide)
    have e4 : (nI (p * 16 + i)).toNatClampNeg = p * 16 + i := nI_clamp (by omega)
    rw [wY_deliver_7]
    simp only [e1, e2, z, sk_ix16, e3, e4, hn, hx, true_implies, false_implies, not_true_eq_false, not_false_eq_true, and_true, true_and, forall_eq, implies_true]
    refine sy_drop hp hg2 ?_
    simp only [nI_1, true_implies, false_implies, not_true_eq_false, not_false_eq_true, and_true, true_and, forall_eq, implies_true]
    rw [wY_deliver_7]
    exact br_c (fun _ => ⟨1, sy_79_skip hp hg0 h⟩) fun _ => br_f hg0 ⟨1, sy_79_skip hp hg0 h⟩
  | succ d ih =>
    intro i hi hk
    have z : ¬ (15 : Int32) < nI i := nI_nlt (a := 15) (by omega) (by decide)
    have e3 : vp_in (nI (p * 16 + i)) 64 := vp_in_nI (by omega) (by decide)
    have e4 : (nI (p * 16 + i)).toNatClampNeg = p * 16 + i := nI_clamp (by omega)
    have hh := ih (i + 1) (by omega) fun k h1 h2 => hk k (by omega) h2
    rw [wY_deliver_7]
    by_cases y : pn (p * 16 + i) = 0
    · simp only [e1, e2, z, sk_ix16, e3, e4, y, nI_1, true_implies, false_implies, not_true_eq_false, not_false_eq_true, and_true, true_and, forall_eq, implies_true]
      exact hh
    · have e5 : ¬ mk p &&& ((1 : Int32) <<< (nI i &&& 31)) = 0 := (hk i (by omega) (by omega)).resolve_left y
      simp only [e1, e2, z, sk_ix16, e3, e4, y, e5, nI_1, true_implies, false_implies, not_true_eq_false, not_false_eq_true, and_true, true_and, forall_eq, implies_true]
      exact hh
theorem sy_7_none {post : Int32 → SY → Prop} {p : Nat} (hp : p < 4) (h : ∃ n79, wY_deliver_79 post (nI p) (nI np) (nI nd) ls et (nI es) n79 0 0 0 co ca pc ra rb sp mk dp sl lf su ql st pn ss qs qr hd fl fc fa fb fm ek ep ev er) : ∀ d i, i + d = 16 → (∀ k, i ≤ k → k < 16 → pn (p * 16 + k) = 0 ∨ ¬ mk p &&& ((1 : Int32) <<< (nI k &&& 31)) = 0) → wY_deliver_7 post (nI p) (d + 1) 0 0 (nI i) (nI np) (nI nd) ls et (nI es) co ca pc ra rb sp mk dp sl lf su ql st pn ss qs qr hd fl fc fa fb fm ek ep ev er := by
  have e1 : vp_in (nI p) 4 := vp_in_nI hp (by decide)
  have e2 : (nI p).toNatClampNeg = p := nI_clamp (by omega)
  intro d
  induction d with
  | zero =>
    intro i hi _
    have hi' : i = 16 := by omega
    subst hi'
    rw [wY_deliver_7]
    exact br_t (by decide) h
  | succ d ih =>
    intro i hi hk
    have z : ¬ (15 : Int32) < nI i := nI_nlt (a := 15) (by omega) (by decide)
    have e3 : vp_in (nI (p * 16 + i)) 64 := vp_in_nI (by omega) (by decide)
    have e4 : (nI (p * 16 + i)).toNatClampNeg = p * 16 + i := nI_clamp (by omega)
    have hh := ih (i + 1) (by omega) fun k h1 h2 => hk k (by omega) h2
    rw [wY_deliver_7]
    by_cases y : pn (p * 16 + i) = 0
    · simp only [e1, e2, z, sk_ix16, e3, e4, y, nI_1, true_implies, false_implies, not_true_eq_false, not_false_eq_true, and_true, true_and, forall_eq, implies_true]
      exact hh
    · have e5 : ¬ mk p &&& ((1 : Int32) <<< (nI i &&& 31)) = 0 := (hk i (by omega) (by omega)).resolve_left y
      simp only [e1, e2, z, sk_ix16, e3, e4, y, e5, nI_1, true_implies, false_implies, not_true_eq_false, not_false_eq_true, and_true, true_and, forall_eq, implies_true]
      exact hh
theorem sy_pb2 {post : Int32 → Prop} {p l : Nat} (hp : p < 4) (hl : l ≤ 8) (e : ql p = nI l) (m : Int32) (h : post (sk_orq m qs (p * 8) l)) : ∀ d i, i + d = l → wY_pendingBits_38 post (nI p) (nI np) (nI nd) ls et (nI es) co ca pc ra rb sp mk dp sl lf su ql st pn ss qs qr hd fl fc fa fb fm ek ep ev er (d + 1) (sk_orq m qs (p * 8) i) (nI i) := by
  have e1 : vp_in (nI p) 4 := vp_in_nI hp (by decide)
  have e2 : (nI p).toNatClampNeg = p := nI_clamp (by omega)
  intro d
  induction d with
  | zero =>
    intro i hi
    have hi' : i = l := by omega
    subst hi'
    have z : nI i ≤ nI i := nI_le (by omega) (by omega)
    rw [wY_pendingBits_38]
    simp only [e1, e2, e, z, true_implies, false_implies, not_true_eq_false, not_false_eq_true, and_true, true_and, forall_eq, implies_true]
    exact h
  | succ d ih =>
    intro i hi
    have z : ¬ nI l ≤ nI i := nI_ge (by omega) (by omega)
    have e3 : vp_in (nI (p * 8 + i)) 32 := vp_in_nI (by omega) (by decide)
    have e4 : (nI (p * 8 + i)).toNatClampNeg = p * 8 + i := nI_clamp (by omega)
    rw [wY_pendingBits_38]
    simp only [e1, e2, e, z, sk_ix8, e3, e4, nI_1, true_implies, false_implies, not_true_eq_false, not_false_eq_true, and_true, true_and, forall_eq, implies_true]
    exact ih (i + 1) (by omega)
/-- the word of the flags of signals below i -/
def sk_low (m : Int32) (pn : Nat → Int32) (p i : Nat) : Prop := ∀ s, s < 32 → (bt m s = true ↔ 1 ≤ s ∧ s < i ∧ ¬ pn (p * 16 + s) = 0)
theorem sk_low_0 {pn : Nat → Int32} {p i : Nat} {m : Int32} (h : sk_low m pn p i) (z : pn (p * 16 + i) = 0) : sk_low m pn p (i + 1) := by
  intro s hs
  rw [h s hs]
  constructor
  · exact fun y => ⟨y.1, by omega, y.2.2⟩
  · intro y
    refine ⟨y.1, ?_, y.2.2⟩
    by_cases e : s = i
    · subst e; exact absurd z y.2.2
    · omega
theorem sk_low_1 {pn : Nat → Int32} {p i : Nat} {m : Int32} (h : sk_low m pn p i) (h1 : 1 ≤ i) (hi : i < 32) (z : ¬ pn (p * 16 + i) = 0) : sk_low (m ||| ((1 : Int32) <<< (nI i &&& 31))) pn p (i + 1) := by
  intro s hs
  rw [b_or, sk_bit hi, Bool.or_eq_true, h s hs, decide_eq_true_eq]
  constructor
  · rintro (y | y)
    · exact ⟨y.1, by omega, y.2.2⟩
    · subst y; exact ⟨h1, by omega, z⟩
  · intro y
    by_cases e : s = i
    · exact Or.inr e
    · exact Or.inl ⟨y.1, by omega, y.2.2⟩
theorem sy_pb1 {post : Int32 → Prop} {p l : Nat} {w : Int32} (hp : p < 4) (hl : l ≤ 8) (e : ql p = nI l) (hw : sk_PB w pn p) (h : post (sk_orq w qs (p * 8) l)) : ∀ d i m, i + d = 16 → 1 ≤ i → sk_low m pn p i → wY_pendingBits_4 post (nI p) (nI np) (nI nd) ls et (nI es) co ca pc ra rb sp mk dp sl lf su ql st pn ss qs qr hd fl fc fa fb fm ek ep ev er (d + 1) m (nI i) := by
  have e1 : vp_in (nI p) 4 := vp_in_nI hp (by decide)
  have e2 : (nI p).toNatClampNeg = p := nI_clamp (by omega)
  intro d
  induction d with
  | zero =>
    intro i m hi h1 hm
    have hi' : i = 16 := by omega
    subst hi'
    have em : m = w := by
      apply b_ext
      intro s hs
      have a := hm s hs
      have b := hw s hs
      exact Bool.eq_iff_iff.mpr (a.trans b.symm)
    subst em
    rw [wY_pendingBits_4]
    exact br_t (by decide) ⟨l + 1, sy_pb2 hp hl e m h l 0 (by omega)⟩
  | succ d ih =>
    intro i m hi h1 hm
    have z : ¬ (15 : Int32) < nI i := nI_nlt (a := 15) (by omega) (by decide)
    have e3 : vp_in (nI (p * 16 + i)) 64 := vp_in_nI (by omega) (by decide)
    have e4 : (nI (p * 16 + i)).toNatClampNeg = p * 16 + i := nI_clamp (by omega)
    rw [wY_pendingBits_4]
    by_cases y : pn (p * 16 + i) = 0
    · simp only [z, sk_ix16, e3, e4, y, nI_1, true_implies, false_implies, not_true_eq_false, not_false_eq_true, and_true, true_and, forall_eq, implies_true]
      exact ih (i + 1) m (by omega) (by omega) (sk_low_0 hm y)
    · simp only [z, sk_ix16, e3, e4, y, nI_1, true_implies, false_implies, not_true_eq_false, not_false_eq_true, and_true, true_and, forall_eq, implies_true]
      exact ih (i + 1) _ (by omega) (by omega) (sk_low_1 hm h1 (by omega) y)
theorem sy_pb {post : Int32 → Prop} {p l : Nat} {w : Int32} (hp : p < 4) (hl : l ≤ 8) (e : ql p = nI l) (hw : sk_PB w pn p) (h : post (sk_orq w qs (p * 8) l)) : wpY_pendingBits post (nI np, nI nd, ls, et, nI es, co, ca, pc, ra, rb, sp, mk, dp, sl, lf, su, ql, st, pn, ss, qs, qr, hd, fl, fc, fa, fb, fm, ek, ep, ev, er) (nI p) := by
  unfold wpY_pendingBits
  refine ⟨16, sy_pb1 hp hl e hw h 15 1 0 (by omega) (by omega) ?_⟩
  intro s _
  rw [b_0]
  exact ⟨fun z => absurd z (by decide), fun z => by omega⟩
end
end
section
section
variable {np nd es : Nat} {ls et : Int32} {co ca pc ra rb sp mk dp fc fa fb fm sl st lf su pg pn ss ql qs qr hd fl ek ep ev er : Nat → Int32}
/-! X: acting on one signal -/
theorem sx_push {post : SX → Prop} {p d : Nat} {r c a : Int32} (hp : p < 4) (hd4 : d < 4) (e : dp p = nI d) (hca : (0 < sl p ∧ r = 0 ∧ c = pc p + 1 ∧ a = -4) ∨ (¬ (0 < sl p ∧ r = 0) ∧ c = pc p ∧ a = ra p)) (h : post (nI np, nI nd, ls, et, nI es, co, ca, pc, ra, rb, upd sp p (sp p - 4), mk, upd dp p (nI (d + 1)), upd fc (p * 4 + d) c, upd fa (p * 4 + d) a, upd fb (p * 4 + d) (rb p), upd fm (p * 4 + d) (mk p), upd sl p 0, st, lf, su, pg, ss, ql, qs, qr, hd, fl, ek, ep, ev, er)) : wpX_pushFrame post (nI np, nI nd, ls, et, nI es, co, ca, pc, ra, rb, sp, mk, dp, fc, fa, fb, fm, sl, st, lf, su, pg, ss, ql, qs, qr, hd, fl, ek, ep, ev, er) (nI p) r := by
  have e1 : vp_in (nI p) 4 := vp_in_nI hp (by decide)
  have e2 : (nI p).toNatClampNeg = p := nI_clamp (by omega)
  have e3 : vp_in (nI (p * 4 + d)) 16 := vp_in_nI (by omega) (by decide)
  have e4 : (nI (p * 4 + d)).toNatClampNeg = p * 4 + d := nI_clamp (by omega)
  have n1 : ¬ (1 : Int32) = 0 := by decide
  rcases hca with ⟨z, rfl, rfl, rfl⟩ | ⟨z, rfl, rfl⟩
  · have z' : ¬ sl p ≤ 0 := Int32.not_le.mpr z
    simp only [wpX_pushFrame, wX_pushFrame_18, wX_pushFrame_65, wX_pushFrame_87, e1, e2, e, z', n1, sk_ix4, e3, e4, nI_1, true_implies, false_implies, not_true_eq_false, not_false_eq_true, and_true, true_and, forall_eq, implies_true]
    exact h
  · by_cases y : sl p ≤ 0
    · simp only [wpX_pushFrame, wX_pushFrame_17, wX_pushFrame_18, wX_pushFrame_65, wX_pushFrame_87, e1, e2, e, y, sk_ix4, e3, e4, nI_1, true_implies, false_implies, not_true_eq_false, not_false_eq_true, and_true, true_and, forall_eq, implies_true]
      exact h
    · have y2 : ¬ r = 0 := fun w => z ⟨Int32.not_le.mp y, w⟩
      simp only [wpX_pushFrame, wX_pushFrame_17, wX_pushFrame_18, wX_pushFrame_65, wX_pushFrame_87, e1, e2, e, y, y2, sk_ix4, e3, e4, nI_1, true_implies, false_implies, not_true_eq_false, not_false_eq_true, and_true, true_and, forall_eq, implies_true]
      exact h
theorem sx_e69 {post : SX → Prop} {p j : Nat} {x2 s x5 f : Int32} (hp : p < 4) (hj : j < 128) (hs : es ≤ 128) (h : post (nI np, nI nd, ls, et + 1, nI (sk_lgN es), co, ca, upd pc p x5, upd ra p x2, upd rb p s, sp, mk, dp, fc, fa, fb, fm, sl, st, lf, su, pg, ss, ql, qs, qr, sk_hdH hd j f, sk_flH fl j f, sk_lgA ek es 1, sk_lgA ep es (nI p), sk_lgA ev es x2, sk_lgA er es s)) : wX_enterHandler_69 post (nI p) x2 s (nI j) x5 f (nI np) (nI nd) ls et (nI es) co ca pc ra rb sp mk dp fc fa fb fm sl st lf su pg ss ql qs qr hd fl ek ep ev er := by
  have e1 : vp_in (nI p) 4 := vp_in_nI hp (by decide)
  have e2 : (nI p).toNatClampNeg = p := nI_clamp (by omega)
  have e3 : vp_in (nI j) 128 := vp_in_nI hj (by decide)
  have e4 : (nI j).toNatClampNeg = j := nI_clamp (by omega)
  by_cases f4 : f &&& 4 = 0
  · simp only [sk_hdH, sk_flH, if_pos f4] at h
    simp only [wX_enterHandler_69, e1, e2, f4, true_implies, false_implies, not_true_eq_false, not_false_eq_true, and_true, true_and, forall_eq, implies_true]
    unfold wX_enterHandler_114
    refine sx_log hs ?_
    exact h
  · simp only [sk_hdH, sk_flH, if_neg f4] at h
    simp only [wX_enterHandler_69, e1, e2, e3, e4, f4, true_implies, false_implies, not_true_eq_false, not_false_eq_true, and_true, true_and, forall_eq, implies_true]
    unfold wX_enterHandler_114
    refine sx_log hs ?_
    exact h
theorem sx_e40 {post : SX → Prop} {p g d : Nat} {s x5 f r : Int32} (hp : p < 4) (hg : g < 32) (hd4 : d < 4) (e : dp p = nI d) (hs : es ≤ 128) (hr : r = 0 ↔ f &&& 1 = 0)
    (h : post (nI np, nI nd, ls, et + 1, nI (sk_lgN es), co, ca, upd pc p x5, upd ra p (nI g), upd rb p s, upd sp p (sp p - 4), sk_mkH mk p g f, upd dp p (nI (d + 1)), upd fc (p * 4 + d) (sk_itC sl pc p f), upd fa (p * 4 + d) (sk_itA sl ra p f), upd fb (p * 4 + d) (rb p), upd fm (p * 4 + d) (mk p), upd sl p 0, st, lf, su, pg, ss, ql, qs, qr, sk_hdH hd (p * 32 + g) f, sk_flH fl (p * 32 + g) f, sk_lgA ek es 1, sk_lgA ep es (nI p), sk_lgA ev es (nI g), sk_lgA er es s)) : wX_enterHandler_40 post (nI p) (nI g) s (nI (p * 32 + g)) x5 f r (nI p) (nI np) (nI nd) ls et (nI es) co ca pc ra rb sp mk dp fc fa fb fm sl st lf su pg ss ql qs qr hd fl ek ep ev er := by
  have e1 : vp_in (nI p) 4 := vp_in_nI hp (by decide)
  have e2 : (nI p).toNatClampNeg = p := nI_clamp (by omega)
  have hca : (0 < sl p ∧ r = 0 ∧ sk_itC sl pc p f = pc p + 1 ∧ sk_itA sl ra p f = -4) ∨ (¬ (0 < sl p ∧ r = 0) ∧ sk_itC sl pc p f = pc p ∧ sk_itA sl ra p f = ra p) := by
    by_cases z : 0 < sl p ∧ f &&& 1 = 0
    · exact Or.inl ⟨z.1, hr.mpr z.2, if_pos z, if_pos z⟩
    · exact Or.inr ⟨fun y => z ⟨y.1, hr.mp y.2⟩, if_neg z, if_neg z⟩
  unfold wX_enterHandler_40
  refine sx_push hp hd4 e hca ?_
  by_cases f2 : f &&& 2 = 0
  · simp only [sk_mkH, if_pos f2] at h
    refine br_t f2 ⟨e1, e1, nm_r (by rw [e2]) ?_⟩
    exact sx_e69 hp (by omega) hs h
  · simp only [sk_mkH, if_neg f2] at h
    refine br_f f2 ?_
    exact sx_e69 hp (by omega) hs h
theorem sx_enter {post : SX → Prop} {p g d : Nat} {s : Int32} (hp : p < 4) (hg : g < 32) (hd4 : d < 4) (e : dp p = nI d) (hs : es ≤ 128) (h : post (nI np, nI nd, ls, et + 1, nI (sk_lgN es), co, ca, upd pc p (hd (p * 32 + g)), upd ra p (nI g), upd rb p s, upd sp p (sp p - 4), sk_mkH mk p g (fl (p * 32 + g)), upd dp p (nI (d + 1)), upd fc (p * 4 + d) (sk_itC sl pc p (fl (p * 32 + g))), upd fa (p * 4 + d) (sk_itA sl ra p (fl (p * 32 + g))), upd fb (p * 4 + d) (rb p), upd fm (p * 4 + d) (mk p), upd sl p 0, st, lf, su, pg, ss, ql, qs, qr, sk_hdH hd (p * 32 + g) (fl (p * 32 + g)), sk_flH fl (p * 32 + g) (fl (p * 32 + g)), sk_lgA ek es 1, sk_lgA ep es (nI p), sk_lgA ev es (nI g), sk_lgA er es s)) : wpX_enterHandler post (nI np, nI nd, ls, et, nI es, co, ca, pc, ra, rb, sp, mk, dp, fc, fa, fb, fm, sl, st, lf, su, pg, ss, ql, qs, qr, hd, fl, ek, ep, ev, er) (nI p) (nI g) s := by
  have e3 : vp_in (nI (p * 32 + g)) 128 := vp_in_nI (by omega) (by decide)
  have e4 : (nI (p * 32 + g)).toNatClampNeg = p * 32 + g := nI_clamp (by omega)
  simp only [wpX_enterHandler, sk_ix32, e3, e4, true_implies, false_implies, not_true_eq_false, not_false_eq_true, and_true, true_and, forall_eq, implies_true]
  refine br_c (fun f1 => ?_) (fun f1 => ?_)
  · exact sx_e40 hp hg hd4 e hs ⟨fun _ => f1, fun _ => rfl⟩ h
  · exact sx_e40 hp hg hd4 e hs ⟨fun z => absurd z (by decide), fun z => absurd z f1⟩ h
theorem sx_71 {post : SX → Prop} {p g s : Int32} (hs : es ≤ 128) (h : post (nI np, nI nd, ls, et + 1, nI (sk_lgN es), co, ca, pc, ra, rb, sp, mk, dp, fc, fa, fb, fm, sl, st, lf, su, pg, ss, ql, qs, qr, hd, fl, sk_lgA ek es 4, sk_lgA ep es p, sk_lgA ev es g, sk_lgA er es s)) : wX_act_71 post p g s (nI np) (nI nd) ls et (nI es) co ca pc ra rb sp mk dp fc fa fb fm sl st lf su pg ss ql qs qr hd fl ek ep ev er := by
  unfold wX_act_71
  refine sx_log hs ?_
  exact h
theorem sx_94 {post : SX → Prop} {p : Nat} {g s : Int32} (hp : p < 4) (hs : es ≤ 128) (h : post (nI np, nI nd, ls, et + 1, nI (sk_lgN es), co, ca, pc, ra, rb, sp, mk, dp, fc, fa, fb, fm, sl, upd st p 1, lf, su, pg, ss, ql, qs, qr, hd, fl, sk_lgA ek es 3, sk_lgA ep es (nI p), sk_lgA ev es g, sk_lgA er es s)) : wX_act_94 post (nI p) g s (nI np) (nI nd) ls et (nI es) co ca pc ra rb sp mk dp fc fa fb fm sl st lf su pg ss ql qs qr hd fl ek ep ev er := by
  have e1 : vp_in (nI p) 4 := vp_in_nI hp (by decide)
  have e2 : (nI p).toNatClampNeg = p := nI_clamp (by omega)
  unfold wX_act_94
  refine ⟨e1, nm_r (by rw [e2, sk_nb1]) ?_⟩
  refine sx_log hs ?_
  exact h
theorem sx_act_m2 {post : SX → Prop} {p g : Nat} {s : Int32} (hp : p < 4) (hg : g < 32) (he : hd (p * 32 + g) = -2) (hs : es ≤ 128) (h : post (nI np, nI nd, ls, et + 1, nI (sk_lgN es), co, ca, pc, ra, rb, sp, mk, dp, fc, fa, fb, fm, sl, st, lf, su, pg, ss, ql, qs, qr, hd, fl, sk_lgA ek es 4, sk_lgA ep es (nI p), sk_lgA ev es (nI g), sk_lgA er es s)) : wpX_act post (nI np, nI nd, ls, et, nI es, co, ca, pc, ra, rb, sp, mk, dp, fc, fa, fb, fm, sl, st, lf, su, pg, ss, ql, qs, qr, hd, fl, ek, ep, ev, er) (nI p) (nI g) s := by
  have e3 : vp_in (nI p * 32 + nI g) 128 := by rw [sk_ix32]; exact vp_in_nI (by omega) (by decide)
  have e4 : hd (nI p * 32 + nI g).toNatClampNeg = hd (p * 32 + g) := by rw [sk_ix32, nI_clamp (by omega)]
  unfold wpX_act
  refine ⟨e3, nm_r (e4.trans he) (br_t (by decide) (br_t rfl ?_))⟩
  exact sx_71 hs h
theorem sx_act_13 {post : SX → Prop} {p : Nat} {s : Int32} (hp : p < 4) (he : hd (p * 32 + 13) = -1) (hs : es ≤ 128) (h : post (nI np, nI nd, ls, et + 1, nI (sk_lgN es), co, ca, pc, ra, rb, sp, mk, dp, fc, fa, fb, fm, sl, st, lf, su, pg, ss, ql, qs, qr, hd, fl, sk_lgA ek es 4, sk_lgA ep es (nI p), sk_lgA ev es (nI 13), sk_lgA er es s)) : wpX_act post (nI np, nI nd, ls, et, nI es, co, ca, pc, ra, rb, sp, mk, dp, fc, fa, fb, fm, sl, st, lf, su, pg, ss, ql, qs, qr, hd, fl, ek, ep, ev, er) (nI p) (nI 13) s := by
  have e3 : vp_in (nI p * 32 + nI 13) 128 := by rw [sk_ix32]; exact vp_in_nI (by omega) (by decide)
  have e4 : hd (nI p * 32 + nI 13).toNatClampNeg = hd (p * 32 + 13) := by rw [sk_ix32, nI_clamp (by omega)]
  unfold wpX_act
  refine ⟨e3, nm_r (e4.trans he) (br_t (by decide) (br_f (by decide) (br_t rfl ?_)))⟩
  exact sx_71 hs h
theorem sx_act_14 {post : SX → Prop} {p : Nat} {s : Int32} (hp : p < 4) (he : hd (p * 32 + 14) = -1) (hs : es ≤ 128) (h : post (nI np, nI nd, ls, et + 1, nI (sk_lgN es), co, ca, pc, ra, rb, sp, mk, dp, fc, fa, fb, fm, sl, st, lf, su, pg, ss, ql, qs, qr, hd, fl, sk_lgA ek es 4, sk_lgA ep es (nI p), sk_lgA ev es (nI 14), sk_lgA er es s)) : wpX_act post (nI np, nI nd, ls, et, nI es, co, ca, pc, ra, rb, sp, mk, dp, fc, fa, fb, fm, sl, st, lf, su, pg, ss, ql, qs, qr, hd, fl, ek, ep, ev, er) (nI p) (nI 14) s := by
  have e3 : vp_in (nI p * 32 + nI 14) 128 := by rw [sk_ix32]; exact vp_in_nI (by omega) (by decide)
  have e4 : hd (nI p * 32 + nI 14).toNatClampNeg = hd (p * 32 + 14) := by rw [sk_ix32, nI_clamp (by omega)]
  unfold wpX_act
  refine ⟨e3, nm_r (e4.trans he) (br_t (by decide) (br_f (by decide) (br_f (by decide) (br_t rfl ?_))))⟩
  exact sx_71 hs h
theorem sx_act_12 {post : SX → Prop} {p : Nat} {s : Int32} (hp : p < 4) (he : hd (p * 32 + 12) = -1) (hs : es ≤ 128) (h : post (nI np, nI nd, ls, et + 1, nI (sk_lgN es), co, ca, pc, ra, rb, sp, mk, dp, fc, fa, fb, fm, sl, upd st p 1, lf, su, pg, ss, ql, qs, qr, hd, fl, sk_lgA ek es 3, sk_lgA ep es (nI p), sk_lgA ev es (nI 12), sk_lgA er es s)) : wpX_act post (nI np, nI nd, ls, et, nI es, co, ca, pc, ra, rb, sp, mk, dp, fc, fa, fb, fm, sl, st, lf, su, pg, ss, ql, qs, qr, hd, fl, ek, ep, ev, er) (nI p) (nI 12) s := by
  have e3 : vp_in (nI p * 32 + nI 12) 128 := by rw [sk_ix32]; exact vp_in_nI (by omega) (by decide)
  have e4 : hd (nI p * 32 + nI 12).toNatClampNeg = hd (p * 32 + 12) := by rw [sk_ix32, nI_clamp (by omega)]
  unfold wpX_act
  refine ⟨e3, nm_r (e4.trans he) (br_t (by decide) (br_f (by decide) (br_f (by decide) (br_f (by decide) (br_t rfl ?_)))))⟩
  exact sx_94 hp hs h
theorem sx_act_15 {post : SX → Prop} {p : Nat} {s : Int32} (hp : p < 4) (he : hd (p * 32 + 15) = -1) (hs : es ≤ 128) (h : post (nI np, nI nd, ls, et + 1, nI (sk_lgN es), co, ca, pc, ra, rb, sp, mk, dp, fc, fa, fb, fm, sl, upd st p 1, lf, su, pg, ss, ql, qs, qr, hd, fl, sk_lgA ek es 3, sk_lgA ep es (nI p), sk_lgA ev es (nI 15), sk_lgA er es s)) : wpX_act post (nI np, nI nd, ls, et, nI es, co, ca, pc, ra, rb, sp, mk, dp, fc, fa, fb, fm, sl, st, lf, su, pg, ss, ql, qs, qr, hd, fl, ek, ep, ev, er) (nI p) (nI 15) s := by
  have e3 : vp_in (nI p * 32 + nI 15) 128 := by rw [sk_ix32]; exact vp_in_nI (by omega) (by decide)
  have e4 : hd (nI p * 32 + nI 15).toNatClampNeg = hd (p * 32 + 15) := by rw [sk_ix32, nI_clamp (by omega)]
  unfold wpX_act
  refine ⟨e3, nm_r (e4.trans he) (br_t (by decide) (br_f (by decide) (br_f (by decide) (br_f (by decide) (br_f (by decide) (br_t rfl ?_))))))⟩
  exact sx_94 hp hs h
theorem sx_act_die {post : SX → Prop} {p g : Nat} {s : Int32} (hp : p < 4) (hg : g < 32) (h12 : g ≠ 12) (h13 : g ≠ 13) (h14 : g ≠ 14) (h15 : g ≠ 15) (he : hd (p * 32 + g) = -1) (hs : es ≤ 128) (h : post (nI np, nI nd, ls, et + 1, nI (sk_lgN es), co, ca, pc, ra, rb, sp, mk, dp, fc, fa, fb, fm, upd sl p 0, upd st p 0, upd lf p 4, upd su p (nI g), upd pg p 0, sk_clr ss (p * 16) 16, upd ql p 0, qs, qr, hd, fl, sk_lgA ek es 2, sk_lgA ep es (nI p), sk_lgA ev es (nI g), sk_lgA er es s)) : wpX_act post (nI np, nI nd, ls, et, nI es, co, ca, pc, ra, rb, sp, mk, dp, fc, fa, fb, fm, sl, st, lf, su, pg, ss, ql, qs, qr, hd, fl, ek, ep, ev, er) (nI p) (nI g) s := by
  have a12 : ¬ nI g = 12 := fun z => absurd ((nI_eq (b := 12) (by omega) (by decide)).mp z) (by omega)
  have a13 : ¬ nI g = 13 := fun z => absurd ((nI_eq (b := 13) (by omega) (by decide)).mp z) (by omega)
  have a14 : ¬ nI g = 14 := fun z => absurd ((nI_eq (b := 14) (by omega) (by decide)).mp z) (by omega)
  have a15 : ¬ nI g = 15 := fun z => absurd ((nI_eq (b := 15) (by omega) (by decide)).mp z) (by omega)
  have e3 : vp_in (nI p * 32 + nI g) 128 := by rw [sk_ix32]; exact vp_in_nI (by omega) (by decide)
  have e4 : hd (nI p * 32 + nI g).toNatClampNeg = hd (p * 32 + g) := by rw [sk_ix32, nI_clamp (by omega)]
  unfold wpX_act
  refine ⟨e3, nm_r (e4.trans he) (br_t (by decide) (br_f (by decide) (br_f a13 (br_f a14 (br_f a12 (br_f a15 ?_))))))⟩
  refine sx_term hp hs ?_
  exact h
theorem sx_act_over {post : SX → Prop} {p g d : Nat} {s : Int32} (hp : p < 4) (hg : g < 32) (he : 0 ≤ hd (p * 32 + g)) (e : dp p = nI d) (hd4 : d ≤ 4) (hnd : nd ≤ d) (hs : es ≤ 128) (h : post (nI np, nI nd, ls, et + 1, nI (sk_lgN es), co, ca, pc, ra, rb, sp, mk, dp, fc, fa, fb, fm, upd sl p 0, upd st p 0, upd lf p 4, upd su p 11, upd pg p 0, sk_clr ss (p * 16) 16, upd ql p 0, qs, qr, hd, fl, sk_lgA ek es 2, sk_lgA ep es (nI p), sk_lgA ev es 11, sk_lgA er es s)) : wpX_act post (nI np, nI nd, ls, et, nI es, co, ca, pc, ra, rb, sp, mk, dp, fc, fa, fb, fm, sl, st, lf, su, pg, ss, ql, qs, qr, hd, fl, ek, ep, ev, er) (nI p) (nI g) s := by
  have e1 : vp_in (nI p) 4 := vp_in_nI hp (by decide)
  have e2 : (nI p).toNatClampNeg = p := nI_clamp (by omega)
  have e3 : vp_in (nI p * 32 + nI g) 128 := by rw [sk_ix32]; exact vp_in_nI (by omega) (by decide)
  have e4 : hd (nI p * 32 + nI g).toNatClampNeg = hd (p * 32 + g) := by rw [sk_ix32, nI_clamp (by omega)]
  unfold wpX_act
  refine ⟨e3, nm_r e4 (br_f (Int32.not_lt.mpr he) ⟨e1, br_t ?_ ?_⟩)⟩
  · rw [e2, e]; exact nI_le hnd (by omega)
  · refine sx_term hp hs ?_
    exact h
theorem sx_act_ent {post : SX → Prop} {p g d : Nat} {s : Int32} (hp : p < 4) (hg : g < 32) (he : 0 ≤ hd (p * 32 + g)) (e : dp p = nI d) (hnd : nd ≤ 4) (hd4 : d < nd) (hs : es ≤ 128) (h : post (nI np, nI nd, ls, et + 1, nI (sk_lgN es), co, ca, upd pc p (hd (p * 32 + g)), upd ra p (nI g), upd rb p s, upd sp p (sp p - 4), sk_mkH mk p g (fl (p * 32 + g)), upd dp p (nI (d + 1)), upd fc (p * 4 + d) (sk_itC sl pc p (fl (p * 32 + g))), upd fa (p * 4 + d) (sk_itA sl ra p (fl (p * 32 + g))), upd fb (p * 4 + d) (rb p), upd fm (p * 4 + d) (mk p), upd sl p 0, st, lf, su, pg, ss, ql, qs, qr, sk_hdH hd (p * 32 + g) (fl (p * 32 + g)), sk_flH fl (p * 32 + g) (fl (p * 32 + g)), sk_lgA ek es 1, sk_lgA ep es (nI p), sk_lgA ev es (nI g), sk_lgA er es s)) : wpX_act post (nI np, nI nd, ls, et, nI es, co, ca, pc, ra, rb, sp, mk, dp, fc, fa, fb, fm, sl, st, lf, su, pg, ss, ql, qs, qr, hd, fl, ek, ep, ev, er) (nI p) (nI g) s := by
  have e1 : vp_in (nI p) 4 := vp_in_nI hp (by decide)
  have e2 : (nI p).toNatClampNeg = p := nI_clamp (by omega)
  have e3 : vp_in (nI p * 32 + nI g) 128 := by rw [sk_ix32]; exact vp_in_nI (by omega) (by decide)
  have e4 : hd (nI p * 32 + nI g).toNatClampNeg = hd (p * 32 + g) := by rw [sk_ix32, nI_clamp (by omega)]
  unfold wpX_act
  refine ⟨e3, nm_r e4 (br_f (Int32.not_lt.mpr he) ⟨e1, br_f ?_ ?_⟩)⟩
  · rw [e2, e]; exact nI_ge hd4 (by omega)
  · refine sx_enter hp hg (by omega) e hs ?_
    exact h
/-! Y: the same, behind the choice of the signal -/
theorem sy_292 {post : Int32 → SY → Prop} {p g s : Int32} (hs : es ≤ 128) (h : post 1 (nI np, nI nd, ls, et + 1, nI (sk_lgN es), co, ca, pc, ra, rb, sp, mk, dp, sl, lf, su, ql, st, pn, ss, qs, qr, hd, fl, fc, fa, fb, fm, sk_lgA ek es 4, sk_lgA ep es p, sk_lgA ev es g, sk_lgA er es s)) : wY_deliver_292 post p g s (nI np) (nI nd) ls et (nI es) co ca pc ra rb sp mk dp sl lf su ql st pn ss qs qr hd fl fc fa fb fm ek ep ev er := by
  unfold wY_deliver_292
  refine sy_log hs ?_
  exact h
theorem sy_320 {post : Int32 → SY → Prop} {p : Nat} {g s : Int32} (hp : p < 4) (hs : es ≤ 128) (h : post 1 (nI np, nI nd, ls, et + 1, nI (sk_lgN es), co, ca, pc, ra, rb, sp, mk, dp, sl, lf, su, ql, upd st p 1, pn, ss, qs, qr, hd, fl, fc, fa, fb, fm, sk_lgA ek es 3, sk_lgA ep es (nI p), sk_lgA ev es g, sk_lgA er es s)) : wY_deliver_320 post (nI p) g s (nI np) (nI nd) ls et (nI es) co ca pc ra rb sp mk dp sl lf su ql st pn ss qs qr hd fl fc fa fb fm ek ep ev er := by
  have e1 : vp_in (nI p) 4 := vp_in_nI hp (by decide)
  have e2 : (nI p).toNatClampNeg = p := nI_clamp (by omega)
  unfold wY_deliver_320
  refine ⟨e1, nm_r (by rw [e2, sk_nb1]) ?_⟩
  refine sy_log hs ?_
  exact h
theorem sy_548 {post : Int32 → SY → Prop} {p g : Nat} {s x5 f : Int32} (hp : p < 4) (hg : g < 32) (hs : es ≤ 128) (h : post 1 (nI np, nI nd, ls, et + 1, nI (sk_lgN es), co, ca, upd pc p x5, upd ra p (nI g), upd rb p s, sp, mk, dp, sl, lf, su, ql, st, pn, ss, qs, qr, sk_hdH hd (p * 32 + g) f, sk_flH fl (p * 32 + g) f, fc, fa, fb, fm, sk_lgA ek es 1, sk_lgA ep es (nI p), sk_lgA ev es (nI g), sk_lgA er es s)) : wY_deliver_548 post (nI p) (nI g) s x5 f (nI np) (nI nd) ls et (nI es) co ca pc ra rb sp mk dp sl lf su ql st pn ss qs qr hd fl fc fa fb fm ek ep ev er := by
  have e1 : vp_in (nI p) 4 := vp_in_nI hp (by decide)
  have e2 : (nI p).toNatClampNeg = p := nI_clamp (by omega)
  have e3 : vp_in (nI (p * 32 + g)) 128 := vp_in_nI (by omega) (by decide)
  have e4 : (nI (p * 32 + g)).toNatClampNeg = p * 32 + g := nI_clamp (by omega)
  by_cases f4 : f &&& 4 = 0
  · simp only [sk_hdH, sk_flH, if_pos f4] at h
    simp only [wY_deliver_548, e1, e2, f4, true_implies, false_implies, not_true_eq_false, not_false_eq_true, and_true, true_and, forall_eq, implies_true]
    unfold wY_deliver_601
    refine sy_log hs ?_
    exact h
  · simp only [sk_hdH, sk_flH, if_neg f4] at h
    simp only [wY_deliver_548, e1, e2, sk_ix32, e3, e4, f4, true_implies, false_implies, not_true_eq_false, not_false_eq_true, and_true, true_and, forall_eq, implies_true]
    unfold wY_deliver_601
    refine sy_log hs ?_
    exact h
theorem sy_445 {post : Int32 → SY → Prop} {p g d : Nat} {s x5 f c a : Int32} (hp : p < 4) (hg : g < 32) (hd4 : d < 4) (e : dp p = nI d) (hs : es ≤ 128)
    (h : post 1 (nI np, nI nd, ls, et + 1, nI (sk_lgN es), co, ca, upd pc p x5, upd ra p (nI g), upd rb p s, upd sp p (sp p - 4), sk_mkH mk p g f, upd dp p (nI (d + 1)), sl, lf, su, ql, st, pn, ss, qs, qr, sk_hdH hd (p * 32 + g) f, sk_flH fl (p * 32 + g) f, upd fc (p * 4 + d) c, upd fa (p * 4 + d) a, upd fb (p * 4 + d) (rb p), upd fm (p * 4 + d) (mk p), sk_lgA ek es 1, sk_lgA ep es (nI p), sk_lgA ev es (nI g), sk_lgA er es s)) : wY_deliver_445 post (nI p) (nI g) s x5 f c a (nI np) (nI nd) ls et (nI es) co ca pc ra rb sp mk dp sl lf su ql st pn ss qs qr hd fl fc fa fb fm ek ep ev er := by
  have e1 : vp_in (nI p) 4 := vp_in_nI hp (by decide)
  have e2 : (nI p).toNatClampNeg = p := nI_clamp (by omega)
  have e3 : vp_in (nI (p * 4 + d)) 16 := vp_in_nI (by omega) (by decide)
  have e4 : (nI (p * 4 + d)).toNatClampNeg = p * 4 + d := nI_clamp (by omega)
  by_cases f2 : f &&& 2 = 0
  · simp only [sk_mkH, if_pos f2] at h
    simp only [wY_deliver_445, wpY_clean, e1, e2, e, sk_ix4, e3, e4, nI_1, f2, true_implies, false_implies, not_true_eq_false, not_false_eq_true, and_true, true_and, forall_eq, implies_true]
    exact sy_548 hp hg hs h
  · simp only [sk_mkH, if_neg f2] at h
    simp only [wY_deliver_445, e1, e2, e, sk_ix4, e3, e4, nI_1, f2, true_implies, false_implies, not_true_eq_false, not_false_eq_true, and_true, true_and, forall_eq, implies_true]
    exact sy_548 hp hg hs h
theorem sy_enter {post : Int32 → SY → Prop} {p g d : Nat} {s x5 : Int32} (hp : p < 4) (hg : g < 32) (hd4 : d < nd) (hnd : nd ≤ 4) (e : dp p = nI d) (hs : es ≤ 128) (hsl : 0 ≤ sl p) (h1 : ¬ x5 = -1) (hx : hd (p * 32 + g) = x5) (h : post 1 (nI np, nI nd, ls, et + 1, nI (sk_lgN es), co, ca, upd pc p (hd (p * 32 + g)), upd ra p (nI g), upd rb p s, upd sp p (sp p - 4), sk_mkH mk p g (fl (p * 32 + g)), upd dp p (nI (d + 1)), upd sl p 0, lf, su, ql, st, pn, ss, qs, qr, sk_hdH hd (p * 32 + g) (fl (p * 32 + g)), sk_flH fl (p * 32 + g) (fl (p * 32 + g)), upd fc (p * 4 + d) (sk_itC sl pc p (fl (p * 32 + g))), upd fa (p * 4 + d) (sk_itA sl ra p (fl (p * 32 + g))), upd fb (p * 4 + d) (rb p), upd fm (p * 4 + d) (mk p), sk_lgA ek es 1, sk_lgA ep es (nI p), sk_lgA ev es (nI g), sk_lgA er es s)) : wY_deliver_337 post (nI p) (nI g) s x5 (fl (p * 32 + g)) (nI np) (nI nd) ls et (nI es) co ca pc ra rb sp mk dp sl lf su ql st pn ss qs qr hd fl fc fa fb fm ek ep ev er := by
  have e1 : vp_in (nI p) 4 := vp_in_nI hp (by decide)
  have e2 : (nI p).toNatClampNeg = p := nI_clamp (by omega)
  subst hx
  have z : nI d < nI nd := nI_lt hd4 (by omega)
  unfold wY_deliver_337
  refine br_f h1 ⟨e1, br_t (by rw [e2, e]; exact z) ⟨e1, nm_r (by rw [e2]) ⟨e1, nm_r (by rw [e2]) ⟨e1, ?_⟩⟩⟩⟩
  by_cases y : sl p ≤ 0
  · have y0 : sl p = 0 := Int32.le_antisymm y hsl
    have yy : ¬ (0 < sl p ∧ fl (p * 32 + g) &&& 1 = 0) := fun w => absurd w.1 (Int32.not_lt.mpr y)
    simp only [sk_itC, sk_itA, if_neg yy, sk_same y0] at h
    refine br_t (by rw [e2]; exact y) ?_
    exact sy_445 hp hg (by omega) e hs h
  · have y1 : 0 < sl p := Int32.not_le.mp y
    refine br_f (by rw [e2]; exact y) ⟨e1, nm_r (by rw [e2]) ?_⟩
    by_cases f1 : fl (p * 32 + g) &&& 1 = 0
    · have yy : 0 < sl p ∧ fl (p * 32 + g) &&& 1 = 0 := ⟨y1, f1⟩
      simp only [sk_itC, sk_itA, if_pos yy] at h
      refine br_t f1 ⟨e1, nm_r (by rw [e2]) ?_⟩
      exact sy_445 hp hg (by omega) e hs h
    · have yy : ¬ (0 < sl p ∧ fl (p * 32 + g) &&& 1 = 0) := fun w => f1 w.2
      simp only [sk_itC, sk_itA, if_neg yy] at h
      refine br_f f1 ?_
      exact sy_445 hp hg (by omega) e hs h
theorem sy_act_m2 {post : Int32 → SY → Prop} {p g : Nat} {s : Int32} (hp : p < 4) (hg : g < 32) (h1 : 1 ≤ g) (he : hd (p * 32 + g) = -2) (hs : es ≤ 128) (h : post 1 (nI np, nI nd, ls, et + 1, nI (sk_lgN es), co, ca, pc, ra, rb, sp, mk, dp, sl, lf, su, ql, st, pn, ss, qs, qr, hd, fl, fc, fa, fb, fm, sk_lgA ek es 4, sk_lgA ep es (nI p), sk_lgA ev es (nI g), sk_lgA er es s)) : wY_deliver_235 post (nI p) (nI g) s (nI np) (nI nd) ls et (nI es) co ca pc ra rb sp mk dp sl lf su ql st pn ss qs qr hd fl fc fa fb fm ek ep ev er := by
  have g0 : ¬ nI g = 0 := nI_ne0 h1 (by omega)
  have e3 : vp_in (nI p * 32 + nI g) 128 := by rw [sk_ix32]; exact vp_in_nI (by omega) (by decide)
  have e4 : hd (nI p * 32 + nI g).toNatClampNeg = hd (p * 32 + g) := by rw [sk_ix32, nI_clamp (by omega)]
  have e5 : fl (nI p * 32 + nI g).toNatClampNeg = fl (p * 32 + g) := by rw [sk_ix32, nI_clamp (by omega)]
  unfold wY_deliver_235
  refine br_f g0 ⟨e3, nm_r (e4.trans he) ⟨e3, nm_r e5 (br_t rfl ?_)⟩⟩
  exact sy_292 hs h
theorem sy_act_13 {post : Int32 → SY → Prop} {p : Nat} {s : Int32} (hp : p < 4) (he : hd (p * 32 + 13) = -1) (hs : es ≤ 128) (h : post 1 (nI np, nI nd, ls, et + 1, nI (sk_lgN es), co, ca, pc, ra, rb, sp, mk, dp, sl, lf, su, ql, st, pn, ss, qs, qr, hd, fl, fc, fa, fb, fm, sk_lgA ek es 4, sk_lgA ep es (nI p), sk_lgA ev es (nI 13), sk_lgA er es s)) : wY_deliver_235 post (nI p) (nI 13) s (nI np) (nI nd) ls et (nI es) co ca pc ra rb sp mk dp sl lf su ql st pn ss qs qr hd fl fc fa fb fm ek ep ev er := by
  have e3 : vp_in (nI p * 32 + nI 13) 128 := by rw [sk_ix32]; exact vp_in_nI (by omega) (by decide)
  have e4 : hd (nI p * 32 + nI 13).toNatClampNeg = hd (p * 32 + 13) := by rw [sk_ix32, nI_clamp (by omega)]
  have e5 : fl (nI p * 32 + nI 13).toNatClampNeg = fl (p * 32 + 13) := by rw [sk_ix32, nI_clamp (by omega)]
  unfold wY_deliver_235
  refine br_f (by decide) ⟨e3, nm_r (e4.trans he) ⟨e3, nm_r e5 (br_f (by decide) (br_t rfl (br_t rfl ?_)))⟩⟩
  exact sy_292 hs h
theorem sy_act_14 {post : Int32 → SY → Prop} {p : Nat} {s : Int32} (hp : p < 4) (he : hd (p * 32 + 14) = -1) (hs : es ≤ 128) (h : post 1 (nI np, nI nd, ls, et + 1, nI (sk_lgN es), co, ca, pc, ra, rb, sp, mk, dp, sl, lf, su, ql, st, pn, ss, qs, qr, hd, fl, fc, fa, fb, fm, sk_lgA ek es 4, sk_lgA ep es (nI p), sk_lgA ev es (nI 14), sk_lgA er es s)) : wY_deliver_235 post (nI p) (nI 14) s (nI np) (nI nd) ls et (nI es) co ca pc ra rb sp mk dp sl lf su ql st pn ss qs qr hd fl fc fa fb fm ek ep ev er := by
  have e3 : vp_in (nI p * 32 + nI 14) 128 := by rw [sk_ix32]; exact vp_in_nI (by omega) (by decide)
  have e4 : hd (nI p * 32 + nI 14).toNatClampNeg = hd (p * 32 + 14) := by rw [sk_ix32, nI_clamp (by omega)]
  have e5 : fl (nI p * 32 + nI 14).toNatClampNeg = fl (p * 32 + 14) := by rw [sk_ix32, nI_clamp (by omega)]
  unfold wY_deliver_235
  refine br_f (by decide) ⟨e3, nm_r (e4.trans he) ⟨e3, nm_r e5 (br_f (by decide) (br_t rfl (br_f (by decide) (br_t rfl ?_))))⟩⟩
  exact sy_292 hs h
theorem sy_act_12 {post : Int32 → SY → Prop} {p : Nat} {s : Int32} (hp : p < 4) (he : hd (p * 32 + 12) = -1) (hs : es ≤ 128) (h : post 1 (nI np, nI nd, ls, et + 1, nI (sk_lgN es), co, ca, pc, ra, rb, sp, mk, dp, sl, lf, su, ql, upd st p 1, pn, ss, qs, qr, hd, fl, fc, fa, fb, fm, sk_lgA ek es 3, sk_lgA ep es (nI p), sk_lgA ev es (nI 12), sk_lgA er es s)) : wY_deliver_235 post (nI p) (nI 12) s (nI np) (nI nd) ls et (nI es) co ca pc ra rb sp mk dp sl lf su ql st pn ss qs qr hd fl fc fa fb fm ek ep ev er := by
  have e3 : vp_in (nI p * 32 + nI 12) 128 := by rw [sk_ix32]; exact vp_in_nI (by omega) (by decide)
  have e4 : hd (nI p * 32 + nI 12).toNatClampNeg = hd (p * 32 + 12) := by rw [sk_ix32, nI_clamp (by omega)]
  have e5 : fl (nI p * 32 + nI 12).toNatClampNeg = fl (p * 32 + 12) := by rw [sk_ix32, nI_clamp (by omega)]
  unfold wY_deliver_235
  refine br_f (by decide) ⟨e3, nm_r (e4.trans he) ⟨e3, nm_r e5 (br_f (by decide) (br_t rfl (br_f (by decide) (br_f (by decide) ?_))))⟩⟩
  unfold wY_deliver_302
  refine br_t rfl (br_t rfl ?_)
  exact sy_320 hp hs h
theorem sy_act_15 {post : Int32 → SY → Prop} {p : Nat} {s : Int32} (hp : p < 4) (he : hd (p * 32 + 15) = -1) (hs : es ≤ 128) (h : post 1 (nI np, nI nd, ls, et + 1, nI (sk_lgN es), co, ca, pc, ra, rb, sp, mk, dp, sl, lf, su, ql, upd st p 1, pn, ss, qs, qr, hd, fl, fc, fa, fb, fm, sk_lgA ek es 3, sk_lgA ep es (nI p), sk_lgA ev es (nI 15), sk_lgA er es s)) : wY_deliver_235 post (nI p) (nI 15) s (nI np) (nI nd) ls et (nI es) co ca pc ra rb sp mk dp sl lf su ql st pn ss qs qr hd fl fc fa fb fm ek ep ev er := by
  have e3 : vp_in (nI p * 32 + nI 15) 128 := by rw [sk_ix32]; exact vp_in_nI (by omega) (by decide)
  have e4 : hd (nI p * 32 + nI 15).toNatClampNeg = hd (p * 32 + 15) := by rw [sk_ix32, nI_clamp (by omega)]
  have e5 : fl (nI p * 32 + nI 15).toNatClampNeg = fl (p * 32 + 15) := by rw [sk_ix32, nI_clamp (by omega)]
  unfold wY_deliver_235
  refine br_f (by decide) ⟨e3, nm_r (e4.trans he) ⟨e3, nm_r e5 (br_f (by decide) (br_t rfl (br_f (by decide) (br_f (by decide) ?_))))⟩⟩
  unfold wY_deliver_302
  refine br_t rfl (br_f (by decide) (br_t rfl ?_))
  exact sy_320 hp hs h
theorem sy_act_die {post : Int32 → SY → Prop} {p g : Nat} {s : Int32} (hp : p < 4) (hg : g < 32) (h1 : 1 ≤ g) (h12 : g ≠ 12) (h13 : g ≠ 13) (h14 : g ≠ 14) (h15 : g ≠ 15) (he : hd (p * 32 + g) = -1) (hs : es ≤ 128) (h : post 1 (nI np, nI nd, ls, et + 1, nI (sk_lgN es), co, ca, pc, ra, rb, sp, mk, dp, upd sl p 0, upd lf p 4, upd su p (nI g), upd ql p 0, upd st p 0, sk_clr pn (p * 16) 16, sk_clr ss (p * 16) 16, qs, qr, hd, fl, fc, fa, fb, fm, sk_lgA ek es 2, sk_lgA ep es (nI p), sk_lgA ev es (nI g), sk_lgA er es s)) : wY_deliver_235 post (nI p) (nI g) s (nI np) (nI nd) ls et (nI es) co ca pc ra rb sp mk dp sl lf su ql st pn ss qs qr hd fl fc fa fb fm ek ep ev er := by
  have g0 : ¬ nI g = 0 := nI_ne0 h1 (by omega)
  have a12 : ¬ nI g = 12 := fun z => absurd ((nI_eq (b := 12) (by omega) (by decide)).mp z) (by omega)
  have a13 : ¬ nI g = 13 := fun z => absurd ((nI_eq (b := 13) (by omega) (by decide)).mp z) (by omega)
  have a14 : ¬ nI g = 14 := fun z => absurd ((nI_eq (b := 14) (by omega) (by decide)).mp z) (by omega)
  have a15 : ¬ nI g = 15 := fun z => absurd ((nI_eq (b := 15) (by omega) (by decide)).mp z) (by omega)
  have e3 : vp_in (nI p * 32 + nI g) 128 := by rw [sk_ix32]; exact vp_in_nI (by omega) (by decide)
  have e4 : hd (nI p * 32 + nI g).toNatClampNeg = hd (p * 32 + g) := by rw [sk_ix32, nI_clamp (by omega)]
  have e5 : fl (nI p * 32 + nI g).toNatClampNeg = fl (p * 32 + g) := by rw [sk_ix32, nI_clamp (by omega)]
  unfold wY_deliver_235
  refine br_f g0 ⟨e3, nm_r (e4.trans he) ⟨e3, nm_r e5 (br_f (by decide) (br_t rfl (br_f a13 (br_f a14 ?_))))⟩⟩
  unfold wY_deliver_302
  refine br_t rfl (br_f a12 (br_f a15 ?_))
  unfold wY_deliver_337
  refine br_t rfl ?_
  refine sy_die hp ?_
  refine sy_log hs ?_
  exact h
theorem sy_act_over {post : Int32 → SY → Prop} {p g d : Nat} {s : Int32} (hp : p < 4) (hg : g < 32) (h1 : 1 ≤ g) (he : 0 ≤ hd (p * 32 + g)) (e : dp p = nI d) (hd4 : d ≤ 4) (hnd : nd ≤ d) (hs : es ≤ 128) (h : post 1 (nI np, nI nd, ls, et + 1, nI (sk_lgN es), co, ca, pc, ra, rb, sp, mk, dp, upd sl p 0, upd lf p 4, upd su p 11, upd ql p 0, upd st p 0, sk_clr pn (p * 16) 16, sk_clr ss (p * 16) 16, qs, qr, hd, fl, fc, fa, fb, fm, sk_lgA ek es 2, sk_lgA ep es (nI p), sk_lgA ev es 11, sk_lgA er es s)) : wY_deliver_235 post (nI p) (nI g) s (nI np) (nI nd) ls et (nI es) co ca pc ra rb sp mk dp sl lf su ql st pn ss qs qr hd fl fc fa fb fm ek ep ev er := by
  have e1 : vp_in (nI p) 4 := vp_in_nI hp (by decide)
  have e2 : (nI p).toNatClampNeg = p := nI_clamp (by omega)
  have g0 : ¬ nI g = 0 := nI_ne0 h1 (by omega)
  have n1 : ¬ hd (p * 32 + g) = -1 := fun z => absurd (z ▸ he) (by decide)
  have n2 : ¬ hd (p * 32 + g) = -2 := fun z => absurd (z ▸ he) (by decide)
  have e3 : vp_in (nI p * 32 + nI g) 128 := by rw [sk_ix32]; exact vp_in_nI (by omega) (by decide)
  have e4 : hd (nI p * 32 + nI g).toNatClampNeg = hd (p * 32 + g) := by rw [sk_ix32, nI_clamp (by omega)]
  have e5 : fl (nI p * 32 + nI g).toNatClampNeg = fl (p * 32 + g) := by rw [sk_ix32, nI_clamp (by omega)]
  unfold wY_deliver_235
  refine br_f g0 ⟨e3, nm_r e4 ⟨e3, nm_r e5 (br_f n2 (br_f n1 ?_))⟩⟩
  unfold wY_deliver_302
  refine br_f n1 ?_
  unfold wY_deliver_337
  refine br_f n1 ⟨e1, br_f ?_ ?_⟩
  · rw [e2, e]; exact nI_nlt hnd (by omega)
  · refine sy_die hp ?_
    refine sy_log hs ?_
    exact h
theorem sy_act_ent {post : Int32 → SY → Prop} {p g d : Nat} {s : Int32} (hp : p < 4) (hg : g < 32) (h1 : 1 ≤ g) (he : 0 ≤ hd (p * 32 + g)) (e : dp p = nI d) (hnd : nd ≤ 4) (hd4 : d < nd) (hsl : 0 ≤ sl p) (hs : es ≤ 128) (h : post 1 (nI np, nI nd, ls, et + 1, nI (sk_lgN es), co, ca, upd pc p (hd (p * 32 + g)), upd ra p (nI g), upd rb p s, upd sp p (sp p - 4), sk_mkH mk p g (fl (p * 32 + g)), upd dp p (nI (d + 1)), upd sl p 0, lf, su, ql, st, pn, ss, qs, qr, sk_hdH hd (p * 32 + g) (fl (p * 32 + g)), sk_flH fl (p * 32 + g) (fl (p * 32 + g)), upd fc (p * 4 + d) (sk_itC sl pc p (fl (p * 32 + g))), upd fa (p * 4 + d) (sk_itA sl ra p (fl (p * 32 + g))), upd fb (p * 4 + d) (rb p), upd fm (p * 4 + d) (mk p), sk_lgA ek es 1, sk_lgA ep es (nI p), sk_lgA ev es (nI g), sk_lgA er es s)) : wY_deliver_235 post (nI p) (nI g) s (nI np) (nI nd) ls et (nI es) co ca pc ra rb sp mk dp sl lf su ql st pn ss qs qr hd fl fc fa fb fm ek ep ev er := by
  have g0 : ¬ nI g = 0 := nI_ne0 h1 (by omega)
  have n1 : ¬ hd (p * 32 + g) = -1 := fun z => absurd (z ▸ he) (by decide)
  have n2 : ¬ hd (p * 32 + g) = -2 := fun z => absurd (z ▸ he) (by decide)
  have e3 : vp_in (nI p * 32 + nI g) 128 := by rw [sk_ix32]; exact vp_in_nI (by omega) (by decide)
  have e4 : hd (nI p * 32 + nI g).toNatClampNeg = hd (p * 32 + g) := by rw [sk_ix32, nI_clamp (by omega)]
  have e5 : fl (nI p * 32 + nI g).toNatClampNeg = fl (p * 32 + g) := by rw [sk_ix32, nI_clamp (by omega)]
  unfold wY_deliver_235
  refine br_f g0 ⟨e3, nm_r e4 ⟨e3, nm_r e5 (br_f n2 (br_f n1 ?_))⟩⟩
  unfold wY_deliver_302
  refine br_f n1 ?_
  exact sy_enter hp hg hd4 hnd e hs hsl n1 rfl h
/-! both: one signal acted on -/
theorem sk_I_ent {p g d : Nat} {f : Int32} {j : Nat} (hd4 : d < 4) (I : sk_Inv np nd es pg pn ss dp ql qs hd sl mk fm) : sk_Inv np nd (sk_lgN es) pg pn ss (upd dp p (nI (d + 1))) ql qs (sk_hdH hd j f) (upd sl p 0) (sk_mkH mk p g f) (upd fm (p * 4 + d) (mk p)) := by
  obtain ⟨i1, i2, i3, i4, i5, i6, i7, i8, i9, i10, i11⟩ := I
  exact ⟨i1, i2, sk_lgN_le i3, i4, i5, sk_DP_u i6 (by omega), i7, sk_HD_H i8, sk_SL_u i9 (by decide), sk_MK_H i10, sk_MK_u i11 (i10 p)⟩
theorem sk_act {p g : Nat} {s : Int32} (I : sk_Inv np nd es pg pn ss dp ql qs hd sl mk fm) (hp : p < 4) (h1 : 1 ≤ g) (hg : g < 32) : ∃ u v, sk_Rel np u v ∧ (∀ post : SX → Prop, post u → wpX_act post (nI np, nI nd, ls, et, nI es, co, ca, pc, ra, rb, sp, mk, dp, fc, fa, fb, fm, sl, st, lf, su, pg, ss, ql, qs, qr, hd, fl, ek, ep, ev, er) (nI p) (nI g) s) ∧ (∀ post : Int32 → SY → Prop, post 1 v → wY_deliver_235 post (nI p) (nI g) s (nI np) (nI nd) ls et (nI es) co ca pc ra rb sp mk dp sl lf su ql st pn ss qs qr hd fl fc fa fb fm ek ep ev er) := by
  have hs := sk_I_es I
  rcases I.2.2.2.2.2.2.2.1 (p * 32 + g) with he | he | he
  · exact ⟨(nI np, nI nd, ls, et + 1, nI (sk_lgN es), co, ca, pc, ra, rb, sp, mk, dp, fc, fa, fb, fm, sl, st, lf, su, pg, ss, ql, qs, qr, hd, fl, sk_lgA ek es 4, sk_lgA ep es (nI p), sk_lgA ev es (nI g), sk_lgA er es s), (nI np, nI nd, ls, et + 1, nI (sk_lgN es), co, ca, pc, ra, rb, sp, mk, dp, sl, lf, su, ql, st, pn, ss, qs, qr, hd, fl, fc, fa, fb, fm, sk_lgA ek es 4, sk_lgA ep es (nI p), sk_lgA ev es (nI g), sk_lgA er es s), sk_mk (sk_I_log I), fun post h => sx_act_m2 hp hg he hs h, fun post h => sy_act_m2 hp hg h1 he hs h⟩
  · by_cases g13 : g = 13
    · subst g13
      exact ⟨(nI np, nI nd, ls, et + 1, nI (sk_lgN es), co, ca, pc, ra, rb, sp, mk, dp, fc, fa, fb, fm, sl, st, lf, su, pg, ss, ql, qs, qr, hd, fl, sk_lgA ek es 4, sk_lgA ep es (nI p), sk_lgA ev es (nI 13), sk_lgA er es s), (nI np, nI nd, ls, et + 1, nI (sk_lgN es), co, ca, pc, ra, rb, sp, mk, dp, sl, lf, su, ql, st, pn, ss, qs, qr, hd, fl, fc, fa, fb, fm, sk_lgA ek es 4, sk_lgA ep es (nI p), sk_lgA ev es (nI 13), sk_lgA er es s), sk_mk (sk_I_log I), fun post h => sx_act_13 hp he hs h, fun post h => sy_act_13 hp he hs h⟩
    by_cases g14 : g = 14
    · subst g14
      exact ⟨(nI np, nI nd, ls, et + 1, nI (sk_lgN es), co, ca, pc, ra, rb, sp, mk, dp, fc, fa, fb, fm, sl, st, lf, su, pg, ss, ql, qs, qr, hd, fl, sk_lgA ek es 4, sk_lgA ep es (nI p), sk_lgA ev es (nI 14), sk_lgA er es s), (nI np, nI nd, ls, et + 1, nI (sk_lgN es), co, ca, pc, ra, rb, sp, mk, dp, sl, lf, su, ql, st, pn, ss, qs, qr, hd, fl, fc, fa, fb, fm, sk_lgA ek es 4, sk_lgA ep es (nI p), sk_lgA ev es (nI 14), sk_lgA er es s), sk_mk (sk_I_log I), fun post h => sx_act_14 hp he hs h, fun post h => sy_act_14 hp he hs h⟩
    by_cases g12 : g = 12
    · subst g12
      exact ⟨(nI np, nI nd, ls, et + 1, nI (sk_lgN es), co, ca, pc, ra, rb, sp, mk, dp, fc, fa, fb, fm, sl, upd st p 1, lf, su, pg, ss, ql, qs, qr, hd, fl, sk_lgA ek es 3, sk_lgA ep es (nI p), sk_lgA ev es (nI 12), sk_lgA er es s), (nI np, nI nd, ls, et + 1, nI (sk_lgN es), co, ca, pc, ra, rb, sp, mk, dp, sl, lf, su, ql, upd st p 1, pn, ss, qs, qr, hd, fl, fc, fa, fb, fm, sk_lgA ek es 3, sk_lgA ep es (nI p), sk_lgA ev es (nI 12), sk_lgA er es s), sk_mk (sk_I_log I), fun post h => sx_act_12 hp he hs h, fun post h => sy_act_12 hp he hs h⟩
    by_cases g15 : g = 15
    · subst g15
      exact ⟨(nI np, nI nd, ls, et + 1, nI (sk_lgN es), co, ca, pc, ra, rb, sp, mk, dp, fc, fa, fb, fm, sl, upd st p 1, lf, su, pg, ss, ql, qs, qr, hd, fl, sk_lgA ek es 3, sk_lgA ep es (nI p), sk_lgA ev es (nI 15), sk_lgA er es s), (nI np, nI nd, ls, et + 1, nI (sk_lgN es), co, ca, pc, ra, rb, sp, mk, dp, sl, lf, su, ql, upd st p 1, pn, ss, qs, qr, hd, fl, fc, fa, fb, fm, sk_lgA ek es 3, sk_lgA ep es (nI p), sk_lgA ev es (nI 15), sk_lgA er es s), sk_mk (sk_I_log I), fun post h => sx_act_15 hp he hs h, fun post h => sy_act_15 hp he hs h⟩
    exact ⟨(nI np, nI nd, ls, et + 1, nI (sk_lgN es), co, ca, pc, ra, rb, sp, mk, dp, fc, fa, fb, fm, upd sl p 0, upd st p 0, upd lf p 4, upd su p (nI g), upd pg p 0, sk_clr ss (p * 16) 16, upd ql p 0, qs, qr, hd, fl, sk_lgA ek es 2, sk_lgA ep es (nI p), sk_lgA ev es (nI g), sk_lgA er es s), (nI np, nI nd, ls, et + 1, nI (sk_lgN es), co, ca, pc, ra, rb, sp, mk, dp, upd sl p 0, upd lf p 4, upd su p (nI g), upd ql p 0, upd st p 0, sk_clr pn (p * 16) 16, sk_clr ss (p * 16) 16, qs, qr, hd, fl, fc, fa, fb, fm, sk_lgA ek es 2, sk_lgA ep es (nI p), sk_lgA ev es (nI g), sk_lgA er es s), sk_mk (sk_I_log (sk_I_die I)), fun post h => sx_act_die hp hg g12 g13 g14 g15 he hs h, fun post h => sy_act_die hp hg h1 g12 g13 g14 g15 he hs h⟩
  · obtain ⟨d, hd4, e⟩ := I.2.2.2.2.2.1 p hp
    by_cases hdn : d < nd
    · exact ⟨(nI np, nI nd, ls, et + 1, nI (sk_lgN es), co, ca, upd pc p (hd (p * 32 + g)), upd ra p (nI g), upd rb p s, upd sp p (sp p - 4), sk_mkH mk p g (fl (p * 32 + g)), upd dp p (nI (d + 1)), upd fc (p * 4 + d) (sk_itC sl pc p (fl (p * 32 + g))), upd fa (p * 4 + d) (sk_itA sl ra p (fl (p * 32 + g))), upd fb (p * 4 + d) (rb p), upd fm (p * 4 + d) (mk p), upd sl p 0, st, lf, su, pg, ss, ql, qs, qr, sk_hdH hd (p * 32 + g) (fl (p * 32 + g)), sk_flH fl (p * 32 + g) (fl (p * 32 + g)), sk_lgA ek es 1, sk_lgA ep es (nI p), sk_lgA ev es (nI g), sk_lgA er es s), (nI np, nI nd, ls, et + 1, nI (sk_lgN es), co, ca, upd pc p (hd (p * 32 + g)), upd ra p (nI g), upd rb p s, upd sp p (sp p - 4), sk_mkH mk p g (fl (p * 32 + g)), upd dp p (nI (d + 1)), upd sl p 0, lf, su, ql, st, pn, ss, qs, qr, sk_hdH hd (p * 32 + g) (fl (p * 32 + g)), sk_flH fl (p * 32 + g) (fl (p * 32 + g)), upd fc (p * 4 + d) (sk_itC sl pc p (fl (p * 32 + g))), upd fa (p * 4 + d) (sk_itA sl ra p (fl (p * 32 + g))), upd fb (p * 4 + d) (rb p), upd fm (p * 4 + d) (mk p), sk_lgA ek es 1, sk_lgA ep es (nI p), sk_lgA ev es (nI g), sk_lgA er es s), sk_mk (sk_I_ent (by have := sk_I_nd I; omega) I), fun post h => sx_act_ent hp hg he e (sk_I_nd I) hdn hs h, fun post h => sy_act_ent hp hg h1 he e (sk_I_nd I) hdn (I.2.2.2.2.2.2.2.2.1 p) hs h⟩
    · exact ⟨(nI np, nI nd, ls, et + 1, nI (sk_lgN es), co, ca, pc, ra, rb, sp, mk, dp, fc, fa, fb, fm, upd sl p 0, upd st p 0, upd lf p 4, upd su p 11, upd pg p 0, sk_clr ss (p * 16) 16, upd ql p 0, qs, qr, hd, fl, sk_lgA ek es 2, sk_lgA ep es (nI p), sk_lgA ev es 11, sk_lgA er es s), (nI np, nI nd, ls, et + 1, nI (sk_lgN es), co, ca, pc, ra, rb, sp, mk, dp, upd sl p 0, upd lf p 4, upd su p 11, upd ql p 0, upd st p 0, sk_clr pn (p * 16) 16, sk_clr ss (p * 16) 16, qs, qr, hd, fl, fc, fa, fb, fm, sk_lgA ek es 2, sk_lgA ep es (nI p), sk_lgA ev es 11, sk_lgA er es s), sk_mk (sk_I_log (sk_I_die I)), fun post h => sx_act_over hp hg he e hd4 (by omega) hs h, fun post h => sy_act_over hp hg h1 he e hd4 (by omega) hs h⟩
end
end
section
theorem sk_sig (x : Int32) : (x < 1 ∨ 31 < x) ∨ ∃ g, 1 ≤ g ∧ g < 32 ∧ x = nI g := by
  rcases pk_ix x (n := 32) (by decide) with h | h | ⟨j, hj, rfl⟩
  · exact Or.inl (Or.inl (Int32.lt_trans h (by decide)))
  · exact Or.inl (Or.inr (Int32.lt_of_lt_of_le (by decide) h))
  · by_cases z : j = 0
    · subst z; exact Or.inl (Or.inl (by decide))
    · exact Or.inr ⟨j, by omega, hj, rfl⟩
theorem sx_sig1 {post : Int32 → Prop} {g : Nat} (h1 : 1 ≤ g) (hg : g < 32) (h : post 1) : wpX_isSignal post (nI g) :=
  br_f (nI_nlt (b := 1) h1 (by omega)) (br_f (nI_nlt (a := 31) (by omega) (by decide)) h)
theorem sx_sig0 {post : Int32 → Prop} {x : Int32} (hx : x < 1 ∨ 31 < x) (h : post 0) : wpX_isSignal post x :=
  br_c (fun _ => h) fun z => br_t (hx.resolve_left z) h
section
variable {np nd es : Nat} {ls et : Int32} {co ca pc ra rb sp mk dp fc fa fb fm sl st lf su pg pn ss ql qs qr hd fl ek ep ev er : Nat → Int32}
theorem sx_pid1 {post : Int32 → Prop} {p : Nat} (hp : p < np) (hn : np ≤ 4) (h : post 1) : wpX_isPid post (nI np, nI nd, ls, et, nI es, co, ca, pc, ra, rb, sp, mk, dp, fc, fa, fb, fm, sl, st, lf, su, pg, ss, ql, qs, qr, hd, fl, ek, ep, ev, er) (nI p) := by
  unfold wpX_isPid
  exact br_f (nI_pos (by omega)) (br_f (nI_ge hp (by omega)) h)
theorem sx_pid0 {post : Int32 → Prop} {x : Int32} (hx : x < 0 ∨ nI np ≤ x) (h : post 0) : wpX_isPid post (nI np, nI nd, ls, et, nI es, co, ca, pc, ra, rb, sp, mk, dp, fc, fa, fb, fm, sl, st, lf, su, pg, ss, ql, qs, qr, hd, fl, ek, ep, ev, er) x := by
  unfold wpX_isPid
  exact br_c (fun _ => h) fun z => br_t (hx.resolve_left z) h
theorem sx_al1 {post : Int32 → Prop} {p : Nat} (hp : p < np) (hn : np ≤ 4) (hl : lf p = 0) (h : post 1) : wpX_isAlive post (nI np, nI nd, ls, et, nI es, co, ca, pc, ra, rb, sp, mk, dp, fc, fa, fb, fm, sl, st, lf, su, pg, ss, ql, qs, qr, hd, fl, ek, ep, ev, er) (nI p) := by
  unfold wpX_isAlive
  refine sx_pid1 hp hn ?_
  exact br_f (by decide) ⟨vp_in_nI (by omega) (by decide), br_t (by rw [nI_clamp (by omega)]; exact hl) h⟩
theorem sx_al0 {post : Int32 → Prop} {x : Int32} (hx : x < 0 ∨ nI np ≤ x) (h : post 0) : wpX_isAlive post (nI np, nI nd, ls, et, nI es, co, ca, pc, ra, rb, sp, mk, dp, fc, fa, fb, fm, sl, st, lf, su, pg, ss, ql, qs, qr, hd, fl, ek, ep, ev, er) x := by
  unfold wpX_isAlive
  refine sx_pid0 hx ?_
  exact br_t rfl h
theorem sx_al2 {post : Int32 → Prop} {p : Nat} (hp : p < np) (hn : np ≤ 4) (hl : ¬ lf p = 0) (h : post 0) : wpX_isAlive post (nI np, nI nd, ls, et, nI es, co, ca, pc, ra, rb, sp, mk, dp, fc, fa, fb, fm, sl, st, lf, su, pg, ss, ql, qs, qr, hd, fl, ek, ep, ev, er) (nI p) := by
  unfold wpX_isAlive
  refine sx_pid1 hp hn ?_
  exact br_f (by decide) ⟨vp_in_nI (by omega) (by decide), br_f (by rw [nI_clamp (by omega)]; exact hl) h⟩
theorem sk_121 {p : Nat} (r z : Int32) (I : sk_Inv np nd es pg pn ss dp ql qs hd sl mk fm) : ∃ u v, sk_Rel np u v ∧ (∀ post : Int32 → SX → Prop, post r u → wX_send_121 post (nI p) z r (nI np) (nI nd) ls et (nI es) co ca pc ra rb sp mk dp fc fa fb fm sl st lf su pg ss ql qs qr hd fl ek ep ev er) ∧ (∀ post : Int32 → SY → Prop, post r v → wY_sendSig_258 post (nI p) z r (nI np) (nI nd) ls et (nI es) co ca pc ra rb sp mk dp sl lf su ql st pn ss qs qr hd fl fc fa fb fm ek ep ev er) := by
  by_cases hz : z = 0
  · exact ⟨(nI np, nI nd, ls, et, nI es, co, ca, pc, ra, rb, sp, mk, dp, fc, fa, fb, fm, sl, st, lf, su, pg, ss, ql, qs, qr, hd, fl, ek, ep, ev, er), (nI np, nI nd, ls, et, nI es, co, ca, pc, ra, rb, sp, mk, dp, sl, lf, su, ql, st, pn, ss, qs, qr, hd, fl, fc, fa, fb, fm, ek, ep, ev, er), sk_mk I, fun post h => br_t hz h, fun post h => br_t hz h⟩
  · refine ⟨(nI np, nI nd, ls, et + 1, nI (sk_lgN es), co, ca, pc, ra, rb, sp, mk, dp, fc, fa, fb, fm, sl, st, lf, su, pg, ss, ql, qs, qr, hd, fl, sk_lgA ek es 5, sk_lgA ep es (nI p), sk_lgA ev es 14, sk_lgA er es r), (nI np, nI nd, ls, et + 1, nI (sk_lgN es), co, ca, pc, ra, rb, sp, mk, dp, sl, lf, su, ql, st, pn, ss, qs, qr, hd, fl, fc, fa, fb, fm, sk_lgA ek es 5, sk_lgA ep es (nI p), sk_lgA ev es 14, sk_lgA er es r), sk_mk (sk_I_log I), fun post h => ?_, fun post h => ?_⟩
    · unfold wX_send_121
      refine br_f hz ?_
      refine sx_log (sk_I_es I) ?_
      exact h
    · unfold wY_sendSig_258
      refine br_f hz ?_
      refine sy_log (sk_I_es I) ?_
      exact h
theorem sk_100 {p g : Nat} (z : Int32) (I : sk_Inv np nd es pg pn ss dp ql qs hd sl mk fm) (hp : p < 4) (h1 : 1 ≤ g) (hg : g < 32) (hq : g < 16 ∨ ∃ l, l < 8 ∧ ql p = nI l) : ∃ r u v, sk_Rel np u v ∧ (∀ post : Int32 → SX → Prop, post r u → wX_send_100 post (nI p) (nI g) z (nI np) (nI nd) ls et (nI es) co ca pc ra rb sp mk dp fc fa fb fm sl st lf su pg ss ql qs qr hd fl ek ep ev er) ∧ (∀ post : Int32 → SY → Prop, post r v → wY_sendSig_147 post (nI p) (nI g) z (nI np) (nI nd) ls et (nI es) co ca pc ra rb sp mk dp sl lf su ql st pn ss qs qr hd fl fc fa fb fm ek ep ev er) := by
  have e1 : vp_in (nI p) 4 := vp_in_nI hp (by decide)
  have e2 : (nI p).toNatClampNeg = p := nI_clamp (by omega)
  by_cases g16 : g < 16
  · have a1 : nI g < 16 := nI_lt (b := 16) g16 (by decide)
    have a2 : ¬ 15 < nI g := nI_nlt (a := 15) (by omega) (by decide)
    have e3 : vp_in (nI (p * 16 + g)) 64 := vp_in_nI (by omega) (by decide)
    have e4 : (nI (p * 16 + g)).toNatClampNeg = p * 16 + g := nI_clamp (by omega)
    have hb := sk_PB_t (I.2.2.2.1 p hp) h1 g16
    by_cases y : pn (p * 16 + g) = 0
    · obtain ⟨u, v, R, hX, hY⟩ := sk_121 (np := np) (nd := nd) (ls := ls + 1) (et := et) (es := es) (co := co) (ca := ca) (pc := pc) (ra := ra) (rb := rb) (sp := sp) (mk := mk) (dp := dp) (fc := fc) (fa := fa) (fb := fb) (fm := fm) (sl := sl) (st := st) (lf := lf) (su := su) (pg := upd pg p (pg p ||| ((1 : Int32) <<< (nI g &&& 31)))) (ss := upd ss (p * 16 + g) (ls + 1)) (ql := ql) (qs := qs) (qr := qr) (hd := hd) (fl := fl) (ek := ek) (ep := ep) (ev := ev) (er := er) (pn := upd pn (p * 16 + g) 1) (p := p) (ls + 1) z (sk_I_mark h1 g16 I)
      refine ⟨ls + 1, u, v, R, fun post h => ?_, fun post h => ?_⟩
      · unfold wX_send_100
        refine br_t a1 ?_
        refine sx_mark1 hp g16 (hb.mpr y) ?_
        exact hX _ h
      · unfold wY_sendSig_147
        refine br_f a2 ⟨by rw [sk_ix16]; exact e3, br_t (by rw [sk_ix16, e4]; exact y) ?_⟩
        refine sy_serial ?_
        refine ⟨by rw [sk_ix16]; exact e3, nm_r (by rw [sk_ix16, e4, sk_nb1]) ⟨by rw [sk_ix16]; exact e3, nm_r (by rw [sk_ix16, e4]) ?_⟩⟩
        exact hY _ h
    · obtain ⟨u, v, R, hX, hY⟩ := sk_121 (np := np) (nd := nd) (ls := ls) (et := et) (es := es) (co := co) (ca := ca) (pc := pc) (ra := ra) (rb := rb) (sp := sp) (mk := mk) (dp := dp) (fc := fc) (fa := fa) (fb := fb) (fm := fm) (sl := sl) (st := st) (lf := lf) (su := su) (pg := pg) (ss := ss) (ql := ql) (qs := qs) (qr := qr) (hd := hd) (fl := fl) (ek := ek) (ep := ep) (ev := ev) (er := er) (pn := pn) (p := p) 0 z I
      refine ⟨0, u, v, R, fun post h => ?_, fun post h => ?_⟩
      · unfold wX_send_100
        refine br_t a1 ?_
        refine sx_mark0 hp (fun w => y (hb.mp w)) ?_
        exact hX _ h
      · unfold wY_sendSig_147
        refine br_f a2 ⟨by rw [sk_ix16]; exact e3, br_f (by rw [sk_ix16, e4]; exact y) ?_⟩
        exact hY _ h
  · have a1 : ¬ nI g < 16 := nI_nlt (b := 16) (by omega) (by omega)
    have a2 : 15 < nI g := nI_lt (a := 15) (by omega) (by omega)
    obtain ⟨l, hl, e⟩ := hq.resolve_left g16
    have e3 : vp_in (nI (p * 8 + l)) 32 := vp_in_nI (by omega) (by decide)
    have e4 : (nI (p * 8 + l)).toNatClampNeg = p * 8 + l := nI_clamp (by omega)
    obtain ⟨u, v, R, hX, hY⟩ := sk_121 (np := np) (nd := nd) (ls := ls + 1) (et := et) (es := es) (co := co) (ca := ca) (pc := pc) (ra := ra) (rb := rb) (sp := sp) (mk := mk) (dp := dp) (fc := fc) (fa := fa) (fb := fb) (fm := fm) (sl := sl) (st := st) (lf := lf) (su := su) (pg := pg) (ss := ss) (ql := upd ql p (nI (l + 1))) (qs := upd qs (p * 8 + l) (nI g)) (qr := upd qr (p * 8 + l) (ls + 1)) (hd := hd) (fl := fl) (ek := ek) (ep := ep) (ev := ev) (er := er) (pn := pn) (p := p) (ls + 1) z (sk_I_enq hp hl e h1 hg I)
    refine ⟨ls + 1, u, v, R, fun post h => ?_, fun post h => ?_⟩
    · unfold wX_send_100
      refine br_f a1 ?_
      refine sx_enq hp hl e ?_
      exact hX _ h
    · unfold wY_sendSig_147
      refine br_t a2 ?_
      refine sy_serial ?_
      refine ⟨e1, by rw [e2, e, sk_ix8]; exact e3, nm_r (by rw [e2, e, sk_ix8, e4]) ⟨e1, by rw [e2, e, sk_ix8]; exact e3, nm_r (by rw [e2, e, sk_ix8, e4]) ⟨e1, e1, nm_r (by rw [e2, e, nI_1]) ?_⟩⟩⟩
      exact hY _ h
theorem sx_opp14 {post : SX → Prop} {p : Nat} (hp : p < 4) (h : post (nI np, nI nd, ls, et, nI es, co, ca, pc, ra, rb, sp, mk, dp, fc, fa, fb, fm, sl, st, lf, su, upd (upd pg p (pg p &&& (((1 : Int32) <<< (nI 12 &&& 31)) ^^^ (-1)))) p ((upd pg p (pg p &&& (((1 : Int32) <<< (nI 12 &&& 31)) ^^^ (-1)))) p &&& (((1 : Int32) <<< (nI 15 &&& 31)) ^^^ (-1))), upd (upd ss (p * 16 + 12) 0) (p * 16 + 15) 0, ql, qs, qr, hd, fl, ek, ep, ev, er)) : wpX_dropOpposites post (nI np, nI nd, ls, et, nI es, co, ca, pc, ra, rb, sp, mk, dp, fc, fa, fb, fm, sl, st, lf, su, pg, ss, ql, qs, qr, hd, fl, ek, ep, ev, er) (nI p) 14 := by
  unfold wpX_dropOpposites
  refine br_f (by decide) (br_f (by decide) ?_)
  unfold wX_dropOpposites_19
  refine br_t rfl ?_
  refine sx_drop (s := 12) hp (by decide) ?_
  refine sx_drop (s := 15) hp (by decide) ?_
  exact h
theorem sk_41 {p g : Nat} (I : sk_Inv np nd es pg pn ss dp ql qs hd sl mk fm) (hp : p < 4) (h1 : 1 ≤ g) (hg : g < 32) (hq : g < 16 ∨ ∃ l, l < 8 ∧ ql p = nI l) : ∃ r u v, sk_Rel np u v ∧ (∀ post : Int32 → SX → Prop, post r u → wX_send_41 post (nI p) (nI g) (nI np) (nI nd) ls et (nI es) co ca pc ra rb sp mk dp fc fa fb fm sl st lf su pg ss ql qs qr hd fl ek ep ev er) ∧ (∀ post : Int32 → SY → Prop, post r v → wY_sendSig_58 post (nI p) (nI g) (nI np) (nI nd) ls et (nI es) co ca pc ra rb sp mk dp sl lf su ql st pn ss qs qr hd fl fc fa fb fm ek ep ev er) := by
  have e1 : vp_in (nI p) 4 := vp_in_nI hp (by decide)
  have e2 : (nI p).toNatClampNeg = p := nI_clamp (by omega)
  have hs := sk_I_es I
  by_cases g9 : g = 9
  · subst g9
    refine ⟨ls + 1, (nI np, nI nd, ls + 1, et + 1, nI (sk_lgN es), co, ca, pc, ra, rb, sp, mk, dp, fc, fa, fb, fm, upd sl p 0, upd st p 0, upd lf p 4, upd su p 9, upd pg p 0, sk_clr ss (p * 16) 16, upd ql p 0, qs, qr, hd, fl, sk_lgA ek es 2, sk_lgA ep es (nI p), sk_lgA ev es 9, sk_lgA er es (ls + 1)), (nI np, nI nd, ls + 1, et + 1, nI (sk_lgN es), co, ca, pc, ra, rb, sp, mk, dp, upd sl p 0, upd lf p 4, upd su p 9, upd ql p 0, upd st p 0, sk_clr pn (p * 16) 16, sk_clr ss (p * 16) 16, qs, qr, hd, fl, fc, fa, fb, fm, sk_lgA ek es 2, sk_lgA ep es (nI p), sk_lgA ev es 9, sk_lgA er es (ls + 1)), sk_mk (sk_I_log (sk_I_die I)), fun post h => ?_, fun post h => ?_⟩
    · unfold wX_send_41
      refine br_t rfl ?_
      refine sx_serial ?_
      refine sx_term hp hs ?_
      exact h
    · unfold wY_sendSig_58
      refine br_t rfl ?_
      refine sy_serial ?_
      refine sy_die hp ?_
      refine sy_log hs ?_
      exact h
  have a9 : ¬ nI g = 9 := fun z => g9 ((nI_eq (b := 9) (by omega) (by decide)).mp z)
  by_cases g12 : g = 12
  · subst g12
    obtain ⟨r, u, v, R, hX, hY⟩ := sk_100 (np := np) (nd := nd) (ls := ls) (et := et) (es := es) (co := co) (ca := ca) (pc := pc) (ra := ra) (rb := rb) (sp := sp) (mk := mk) (dp := dp) (fc := fc) (fa := fa) (fb := fb) (fm := fm) (sl := sl) (st := st) (lf := lf) (su := su) (pg := upd pg p (pg p &&& (((1 : Int32) <<< (nI 14 &&& 31)) ^^^ (-1)))) (ss := upd ss (p * 16 + 14) 0) (ql := ql) (qs := qs) (qr := qr) (hd := hd) (fl := fl) (ek := ek) (ep := ep) (ev := ev) (er := er) (pn := upd pn (p * 16 + 14) 0) (g := 12) 0 (sk_I_drop (s := 14) (by decide) I) hp h1 hg hq
    refine ⟨r, u, v, R, fun post h => ?_, fun post h => ?_⟩
    · unfold wX_send_41
      refine br_f a9 ?_
      refine sx_opp12 hp ?_
      refine br_f (by decide) ?_
      unfold wX_send_87 wX_send_88
      exact br_t rfl (hX _ h)
    · unfold wY_sendSig_58
      refine br_f a9 (br_t rfl ?_)
      unfold wY_sendSig_102
      refine sy_drop (s := 14) hp (by decide) ?_
      exact br_f (by decide) (hY _ h)
  have a12 : ¬ nI g = 12 := fun z => g12 ((nI_eq (b := 12) (by omega) (by decide)).mp z)
  by_cases g15 : g = 15
  · subst g15
    obtain ⟨r, u, v, R, hX, hY⟩ := sk_100 (np := np) (nd := nd) (ls := ls) (et := et) (es := es) (co := co) (ca := ca) (pc := pc) (ra := ra) (rb := rb) (sp := sp) (mk := mk) (dp := dp) (fc := fc) (fa := fa) (fb := fb) (fm := fm) (sl := sl) (st := st) (lf := lf) (su := su) (pg := upd pg p (pg p &&& (((1 : Int32) <<< (nI 14 &&& 31)) ^^^ (-1)))) (ss := upd ss (p * 16 + 14) 0) (ql := ql) (qs := qs) (qr := qr) (hd := hd) (fl := fl) (ek := ek) (ep := ep) (ev := ev) (er := er) (pn := upd pn (p * 16 + 14) 0) (g := 15) 0 (sk_I_drop (s := 14) (by decide) I) hp h1 hg hq
    refine ⟨r, u, v, R, fun post h => ?_, fun post h => ?_⟩
    · unfold wX_send_41
      refine br_f a9 ?_
      refine sx_opp15 hp ?_
      refine br_f (by decide) ?_
      unfold wX_send_87 wX_send_88
      exact br_t rfl (hX _ h)
    · unfold wY_sendSig_58
      refine br_f a9 (br_f a12 (br_t rfl ?_))
      unfold wY_sendSig_102
      refine sy_drop (s := 14) hp (by decide) ?_
      exact br_f (by decide) (hY _ h)
  have a15 : ¬ nI g = 15 := fun z => g15 ((nI_eq (b := 15) (by omega) (by decide)).mp z)
  by_cases g14 : g = 14
  · subst g14
    by_cases y : st p = 0
    · obtain ⟨r, u, v, R, hX, hY⟩ := sk_100 (np := np) (nd := nd) (ls := ls) (et := et) (es := es) (co := co) (ca := ca) (pc := pc) (ra := ra) (rb := rb) (sp := sp) (mk := mk) (dp := dp) (fc := fc) (fa := fa) (fb := fb) (fm := fm) (sl := sl) (st := st) (lf := lf) (su := su) (pg := upd (upd pg p (pg p &&& (((1 : Int32) <<< (nI 12 &&& 31)) ^^^ (-1)))) p ((upd pg p (pg p &&& (((1 : Int32) <<< (nI 12 &&& 31)) ^^^ (-1)))) p &&& (((1 : Int32) <<< (nI 15 &&& 31)) ^^^ (-1)))) (ss := upd (upd ss (p * 16 + 12) 0) (p * 16 + 15) 0) (ql := ql) (qs := qs) (qr := qr) (hd := hd) (fl := fl) (ek := ek) (ep := ep) (ev := ev) (er := er) (pn := upd (upd pn (p * 16 + 12) 0) (p * 16 + 15) 0) (g := 14) 0 (sk_I_drop (s := 15) (by decide) (sk_I_drop (s := 12) (by decide) I)) hp h1 hg hq
      refine ⟨r, u, v, R, fun post h => ?_, fun post h => ?_⟩
      · unfold wX_send_41
        refine br_f a9 ?_
        refine sx_opp14 hp ?_
        refine br_t rfl ⟨e1, br_t (by rw [e2]; exact y) ?_⟩
        unfold wX_send_87 wX_send_88
        exact br_t rfl (hX _ h)
      · unfold wY_sendSig_58
        refine br_f a9 (br_f a12 (br_f a15 ?_))
        unfold wY_sendSig_109
        refine br_t rfl ?_
        refine sy_drop (s := 12) hp (by decide) ?_
        refine sy_drop (s := 15) hp (by decide) ?_
        exact ⟨e1, br_t (by rw [e2]; exact y) (hY _ h)⟩
    · obtain ⟨r, u, v, R, hX, hY⟩ := sk_100 (np := np) (nd := nd) (ls := ls) (et := et) (es := es) (co := co) (ca := ca) (pc := pc) (ra := ra) (rb := rb) (sp := sp) (mk := mk) (dp := dp) (fc := fc) (fa := fa) (fb := fb) (fm := fm) (sl := sl) (st := upd st p 0) (lf := lf) (su := su) (pg := upd (upd pg p (pg p &&& (((1 : Int32) <<< (nI 12 &&& 31)) ^^^ (-1)))) p ((upd pg p (pg p &&& (((1 : Int32) <<< (nI 12 &&& 31)) ^^^ (-1)))) p &&& (((1 : Int32) <<< (nI 15 &&& 31)) ^^^ (-1)))) (ss := upd (upd ss (p * 16 + 12) 0) (p * 16 + 15) 0) (ql := ql) (qs := qs) (qr := qr) (hd := hd) (fl := fl) (ek := ek) (ep := ep) (ev := ev) (er := er) (pn := upd (upd pn (p * 16 + 12) 0) (p * 16 + 15) 0) (g := 14) 1 (sk_I_drop (s := 15) (by decide) (sk_I_drop (s := 12) (by decide) I)) hp h1 hg hq
      refine ⟨r, u, v, R, fun post h => ?_, fun post h => ?_⟩
      · unfold wX_send_41
        refine br_f a9 ?_
        refine sx_opp14 hp ?_
        refine br_t rfl ⟨e1, br_f (by rw [e2]; exact y) ?_⟩
        unfold wX_send_88
        exact br_f (by decide) ⟨e1, nm_r (by rw [e2, sk_nb0]) (hX _ h)⟩
      · unfold wY_sendSig_58
        refine br_f a9 (br_f a12 (br_f a15 ?_))
        unfold wY_sendSig_109
        refine br_t rfl ?_
        refine sy_drop (s := 12) hp (by decide) ?_
        refine sy_drop (s := 15) hp (by decide) ?_
        exact ⟨e1, br_f (by rw [e2]; exact y) ⟨e1, nm_r (by rw [e2, sk_nb0]) (hY _ h)⟩⟩
  have a14 : ¬ nI g = 14 := fun z => g14 ((nI_eq (b := 14) (by omega) (by decide)).mp z)
  obtain ⟨r, u, v, R, hX, hY⟩ := sk_100 (np := np) (nd := nd) (ls := ls) (et := et) (es := es) (co := co) (ca := ca) (pc := pc) (ra := ra) (rb := rb) (sp := sp) (mk := mk) (dp := dp) (fc := fc) (fa := fa) (fb := fb) (fm := fm) (sl := sl) (st := st) (lf := lf) (su := su) (pg := pg) (ss := ss) (ql := ql) (qs := qs) (qr := qr) (hd := hd) (fl := fl) (ek := ek) (ep := ep) (ev := ev) (er := er) (pn := pn) 0 I hp h1 hg hq
  refine ⟨r, u, v, R, fun post h => ?_, fun post h => ?_⟩
  · unfold wX_send_41
    refine br_f a9 ?_
    refine sx_oppN hg g12 g14 g15 ?_
    refine br_f a14 ?_
    unfold wX_send_87 wX_send_88
    exact br_t rfl (hX _ h)
  · unfold wY_sendSig_58
    refine br_f a9 (br_f a12 (br_f a15 ?_))
    unfold wY_sendSig_109
    exact br_f a14 (hY _ h)
theorem sk_send (dst sig : Int32) (I : sk_Inv np nd es pg pn ss dp ql qs hd sl mk fm) : ∃ r u v, sk_Rel np u v ∧ (∀ post : Int32 → SX → Prop, post r u → wpX_send post (nI np, nI nd, ls, et, nI es, co, ca, pc, ra, rb, sp, mk, dp, fc, fa, fb, fm, sl, st, lf, su, pg, ss, ql, qs, qr, hd, fl, ek, ep, ev, er) dst sig) ∧ (∀ post : Int32 → SY → Prop, post r v → wpY_sendSig post (nI np, nI nd, ls, et, nI es, co, ca, pc, ra, rb, sp, mk, dp, sl, lf, su, ql, st, pn, ss, qs, qr, hd, fl, fc, fa, fb, fm, ek, ep, ev, er) dst sig) := by
  have hn := sk_I_np I
  rcases sk_sig sig with hx | ⟨g, h1, hg, rfl⟩
  · refine ⟨-22, (nI np, nI nd, ls, et, nI es, co, ca, pc, ra, rb, sp, mk, dp, fc, fa, fb, fm, sl, st, lf, su, pg, ss, ql, qs, qr, hd, fl, ek, ep, ev, er), (nI np, nI nd, ls, et, nI es, co, ca, pc, ra, rb, sp, mk, dp, sl, lf, su, ql, st, pn, ss, qs, qr, hd, fl, fc, fa, fb, fm, ek, ep, ev, er), sk_mk I, fun post h => ?_, fun post h => ?_⟩
    · unfold wpX_send
      refine sx_sig0 hx ?_
      exact br_t rfl h
    · unfold wpY_sendSig
      exact br_c (fun _ => h) fun z => br_f (Int32.not_le.mpr (hx.resolve_left z)) h
  · have b1 : ¬ nI g < 1 := nI_nlt (b := 1) h1 (by omega)
    have b2 : nI g ≤ 31 := nI_le (b := 31) (by omega) (by decide)
    rcases pk_ix dst (n := np) (by omega) with hd' | hd' | ⟨p, hp, rfl⟩
    · refine ⟨-3, (nI np, nI nd, ls, et, nI es, co, ca, pc, ra, rb, sp, mk, dp, fc, fa, fb, fm, sl, st, lf, su, pg, ss, ql, qs, qr, hd, fl, ek, ep, ev, er), (nI np, nI nd, ls, et, nI es, co, ca, pc, ra, rb, sp, mk, dp, sl, lf, su, ql, st, pn, ss, qs, qr, hd, fl, fc, fa, fb, fm, ek, ep, ev, er), sk_mk I, fun post h => ?_, fun post h => ?_⟩
      · unfold wpX_send
        refine sx_sig1 h1 hg ?_
        refine br_f (by decide) ?_
        refine sx_al0 (Or.inl hd') ?_
        exact br_t rfl h
      · unfold wpY_sendSig
        exact br_f b1 (br_t b2 (br_t hd' h))
    · refine ⟨-3, (nI np, nI nd, ls, et, nI es, co, ca, pc, ra, rb, sp, mk, dp, fc, fa, fb, fm, sl, st, lf, su, pg, ss, ql, qs, qr, hd, fl, ek, ep, ev, er), (nI np, nI nd, ls, et, nI es, co, ca, pc, ra, rb, sp, mk, dp, sl, lf, su, ql, st, pn, ss, qs, qr, hd, fl, fc, fa, fb, fm, ek, ep, ev, er), sk_mk I, fun post h => ?_, fun post h => ?_⟩
      · unfold wpX_send
        refine sx_sig1 h1 hg ?_
        refine br_f (by decide) ?_
        refine sx_al0 (Or.inr hd') ?_
        exact br_t rfl h
      · unfold wpY_sendSig
        exact br_f b1 (br_t b2 (br_c (fun _ => h) fun _ => br_t hd' h))
    · have hp4 : p < 4 := by omega
      have e1 : vp_in (nI p) 4 := vp_in_nI hp4 (by decide)
      have e2 : (nI p).toNatClampNeg = p := nI_clamp (by omega)
      have c1 : ¬ nI p < 0 := nI_pos (by omega)
      have c2 : ¬ nI np ≤ nI p := nI_ge hp (by omega)
      by_cases hl : lf p = 0
      · obtain ⟨l, hl8, el, _⟩ := I.2.2.2.2.2.2.1 p hp4
        by_cases hq : g < 16
        · have q1 : nI g < 16 := nI_lt (b := 16) hq (by decide)
          obtain ⟨r, u, v, R, hX, hY⟩ := sk_41 (np := np) (nd := nd) (ls := ls) (et := et) (es := es) (co := co) (ca := ca) (pc := pc) (ra := ra) (rb := rb) (sp := sp) (mk := mk) (dp := dp) (fc := fc) (fa := fa) (fb := fb) (fm := fm) (sl := sl) (st := st) (lf := lf) (su := su) (pg := pg) (ss := ss) (ql := ql) (qs := qs) (qr := qr) (hd := hd) (fl := fl) (ek := ek) (ep := ep) (ev := ev) (er := er) (pn := pn) I hp4 h1 hg (Or.inl hq)
          refine ⟨r, u, v, R, fun post h => ?_, fun post h => ?_⟩
          · unfold wpX_send
            refine sx_sig1 h1 hg ?_
            refine br_f (by decide) ?_
            refine sx_al1 hp hn hl ?_
            exact br_f (by decide) (br_t q1 (hX _ h))
          · unfold wpY_sendSig
            exact br_f b1 (br_t b2 (br_f c1 (br_f c2 ⟨e1, br_t (by rw [e2]; exact hl) (br_t q1 (hY _ h))⟩)))
        · have q1 : ¬ nI g < 16 := nI_nlt (b := 16) (by omega) (by omega)
          by_cases hl7 : l < 8
          · have q2 : nI l < 8 := nI_lt (b := 8) hl7 (by decide)
            obtain ⟨r, u, v, R, hX, hY⟩ := sk_41 (np := np) (nd := nd) (ls := ls) (et := et) (es := es) (co := co) (ca := ca) (pc := pc) (ra := ra) (rb := rb) (sp := sp) (mk := mk) (dp := dp) (fc := fc) (fa := fa) (fb := fb) (fm := fm) (sl := sl) (st := st) (lf := lf) (su := su) (pg := pg) (ss := ss) (ql := ql) (qs := qs) (qr := qr) (hd := hd) (fl := fl) (ek := ek) (ep := ep) (ev := ev) (er := er) (pn := pn) I hp4 h1 hg (Or.inr ⟨l, hl7, el⟩)
            refine ⟨r, u, v, R, fun post h => ?_, fun post h => ?_⟩
            · unfold wpX_send
              refine sx_sig1 h1 hg ?_
              refine br_f (by decide) ?_
              refine sx_al1 hp hn hl ?_
              exact br_f (by decide) (br_f q1 ⟨e1, br_t (by rw [e2, el]; exact q2) (hX _ h)⟩)
            · unfold wpY_sendSig
              exact br_f b1 (br_t b2 (br_f c1 (br_f c2 ⟨e1, br_t (by rw [e2]; exact hl) (br_f q1 ⟨e1, br_t (by rw [e2, el]; exact q2) (hY _ h)⟩)⟩)))
          · have q2 : ¬ nI l < 8 := nI_nlt (b := 8) (by omega) (by omega)
            refine ⟨-11, (nI np, nI nd, ls, et, nI es, co, ca, pc, ra, rb, sp, mk, dp, fc, fa, fb, fm, sl, st, lf, su, pg, ss, ql, qs, qr, hd, fl, ek, ep, ev, er), (nI np, nI nd, ls, et, nI es, co, ca, pc, ra, rb, sp, mk, dp, sl, lf, su, ql, st, pn, ss, qs, qr, hd, fl, fc, fa, fb, fm, ek, ep, ev, er), sk_mk I, fun post h => ?_, fun post h => ?_⟩
            · unfold wpX_send
              refine sx_sig1 h1 hg ?_
              refine br_f (by decide) ?_
              refine sx_al1 hp hn hl ?_
              exact br_f (by decide) (br_f q1 ⟨e1, br_f (by rw [e2, el]; exact q2) h⟩)
            · unfold wpY_sendSig
              exact br_f b1 (br_t b2 (br_f c1 (br_f c2 ⟨e1, br_t (by rw [e2]; exact hl) (br_f q1 ⟨e1, br_f (by rw [e2, el]; exact q2) h⟩)⟩)))
      · refine ⟨-3, (nI np, nI nd, ls, et, nI es, co, ca, pc, ra, rb, sp, mk, dp, fc, fa, fb, fm, sl, st, lf, su, pg, ss, ql, qs, qr, hd, fl, ek, ep, ev, er), (nI np, nI nd, ls, et, nI es, co, ca, pc, ra, rb, sp, mk, dp, sl, lf, su, ql, st, pn, ss, qs, qr, hd, fl, fc, fa, fb, fm, ek, ep, ev, er), sk_mk I, fun post h => ?_, fun post h => ?_⟩
        · unfold wpX_send
          refine sx_sig1 h1 hg ?_
          refine br_f (by decide) ?_
          refine sx_al2 hp hn hl ?_
          exact br_t rfl h
        · unfold wpY_sendSig
          exact br_f b1 (br_t b2 (br_f c1 (br_f c2 ⟨e1, br_f (by rw [e2]; exact hl) h⟩)))
end
end
section
theorem sk_dec {x : Int32} (h : ¬ x ≤ 0) : 0 ≤ x - 1 := by
  obtain ⟨j, hj, rfl⟩ := nI_of (x := x) (fun z => h (Int32.le_of_lt z))
  obtain ⟨m, rfl⟩ : ∃ m, j = m + 1 := ⟨j - 1, by
    have : j ≠ 0 := fun z => h (by subst z; decide)
    omega⟩
  rw [nI_pred]
  exact nI_pos' (by omega)
theorem sx_cell1 {post : Int32 → Prop} {c : Nat} (hc : c < 32) (h : post 1) : wpX_isCell post (nI c) :=
  br_f (nI_pos (by omega)) (br_f (nI_ge (b := 32) hc (by decide)) h)
theorem sx_cell0 {post : Int32 → Prop} {x : Int32} (hx : x < 0 ∨ nI 32 ≤ x) (h : post 0) : wpX_isCell post x :=
  br_c (fun _ => h) fun z => br_t (hx.resolve_left z) h
theorem sx_hd1 {post : Int32 → Prop} {x : Int32} (hx : x = -2 ∨ x = -1 ∨ ∃ j, j < 32 ∧ x = nI j) (h : post 1) : wpX_isHandler post x := by
  refine br_c (fun _ => h) fun n1 => br_c (fun _ => h) fun n2 => ?_
  obtain ⟨j, hj, rfl⟩ := (hx.resolve_left n2).resolve_left n1
  exact sx_cell1 hj (br_f (by decide) h)
theorem sx_hd0 {post : Int32 → Prop} {x : Int32} (n1 : ¬ x = -1) (n2 : ¬ x = -2) (hx : x < 0 ∨ nI 32 ≤ x) (h : post 0) : wpX_isHandler post x :=
  br_f n1 (br_f n2 (sx_cell0 hx (br_t rfl h)))
theorem sk_hd (x : Int32) : (x = -2 ∨ x = -1 ∨ ∃ j, j < 32 ∧ x = nI j) ∨ (¬ x = -1 ∧ ¬ x = -2 ∧ (x < 0 ∨ nI 32 ≤ x)) := by
  by_cases h2 : x = -2
  · exact Or.inl (Or.inl h2)
  by_cases h1 : x = -1
  · exact Or.inl (Or.inr (Or.inl h1))
  rcases pk_ix x (n := 32) (by decide) with h | h | h
  · exact Or.inr ⟨h1, h2, Or.inl h⟩
  · exact Or.inr ⟨h1, h2, Or.inr h⟩
  · exact Or.inl (Or.inr (Or.inr h))
theorem sx_cat1 {post : Int32 → Prop} {g : Nat} (h1 : 1 ≤ g) (hg : g < 32) (h9 : g ≠ 9) (h15 : g ≠ 15) (h : post 1) : wpX_isCatchable post (nI g) := by
  have a9 : ¬ nI g = 9 := fun z => h9 ((nI_eq (b := 9) (by omega) (by decide)).mp z)
  have a15 : ¬ nI g = 15 := fun z => h15 ((nI_eq (b := 15) (by omega) (by decide)).mp z)
  unfold wpX_isCatchable
  refine sx_sig1 h1 hg ?_
  exact br_f (by decide) (br_f a9 (br_f a15 h))
/-- k is no signal that can be caught -/
def sk_nc (k : Int32) : Prop := (k < 1 ∨ 31 < k) ∨ k = 9 ∨ k = 15
theorem sk_cat (k : Int32) : sk_nc k ∨ ∃ g, 1 ≤ g ∧ g < 32 ∧ g ≠ 9 ∧ g ≠ 15 ∧ k = nI g := by
  rcases sk_sig k with h | ⟨g, h1, h2, rfl⟩
  · exact Or.inl (Or.inl h)
  by_cases h9 : g = 9
  · subst h9; exact Or.inl (Or.inr (Or.inl rfl))
  by_cases h15 : g = 15
  · subst h15; exact Or.inl (Or.inr (Or.inr rfl))
  exact Or.inr ⟨g, h1, h2, h9, h15, rfl⟩
theorem sx_cat0 {post : Int32 → Prop} {k : Int32} (hk : sk_nc k) (h : post 0) : wpX_isCatchable post k := by
  unfold wpX_isCatchable
  rcases hk with hk | rfl | rfl
  · exact sx_sig0 hk (br_t rfl h)
  · exact sx_sig1 (g := 9) (by decide) (by decide) (br_f (by decide) (br_t rfl h))
  · exact sx_sig1 (g := 15) (by decide) (by decide) (br_f (by decide) (br_f (by decide) (br_t rfl h)))
section
variable {np nd es : Nat} {ls et : Int32} {co ca pc ra rb sp mk dp fc fa fb fm sl st lf su pg pn ss ql qs qr hd fl ek ep ev er : Nat → Int32}
theorem sy_ok0 {post : Int32 → Prop} {k x : Int32} (hk : sk_nc k) (h : post 0) : wpY_actOk post (nI np, nI nd, ls, et, nI es, co, ca, pc, ra, rb, sp, mk, dp, sl, lf, su, ql, st, pn, ss, qs, qr, hd, fl, fc, fa, fb, fm, ek, ep, ev, er) k x := by
  unfold wpY_actOk
  rcases hk with hk | rfl | rfl
  · exact br_c (fun _ => h) fun z => br_t (hk.resolve_left z) h
  · exact br_f (by decide) (br_f (by decide) (br_t rfl h))
  · exact br_f (by decide) (br_f (by decide) (br_f (by decide) (br_t rfl h)))
theorem sy_ok1 {post : Int32 → Prop} {g : Nat} {x : Int32} (h1 : 1 ≤ g) (hg : g < 32) (h9 : g ≠ 9) (h15 : g ≠ 15) (hx : x = -2 ∨ x = -1 ∨ ∃ j, j < 32 ∧ x = nI j) (h : post 1) : wpY_actOk post (nI np, nI nd, ls, et, nI es, co, ca, pc, ra, rb, sp, mk, dp, sl, lf, su, ql, st, pn, ss, qs, qr, hd, fl, fc, fa, fb, fm, ek, ep, ev, er) (nI g) x := by
  have a9 : ¬ nI g = 9 := fun z => h9 ((nI_eq (b := 9) (by omega) (by decide)).mp z)
  have a15 : ¬ nI g = 15 := fun z => h15 ((nI_eq (b := 15) (by omega) (by decide)).mp z)
  unfold wpY_actOk
  refine br_f (nI_nlt (b := 1) h1 (by omega)) (br_f (nI_nlt (a := 31) (by omega) (by decide)) (br_f a9 (br_f a15 (br_c (fun _ => h) fun n1 => br_c (fun _ => h) fun n2 => ?_))))
  obtain ⟨j, hj, rfl⟩ := (hx.resolve_left n2).resolve_left n1
  exact br_f (nI_pos (by omega)) (br_f (nI_nlt (a := 31) (by omega) (by decide)) h)
theorem sy_ok2 {post : Int32 → Prop} {g : Nat} {x : Int32} (h1 : 1 ≤ g) (hg : g < 32) (h9 : g ≠ 9) (h15 : g ≠ 15) (n1 : ¬ x = -1) (n2 : ¬ x = -2) (hx : x < 0 ∨ nI 32 ≤ x) (h : post 0) : wpY_actOk post (nI np, nI nd, ls, et, nI es, co, ca, pc, ra, rb, sp, mk, dp, sl, lf, su, ql, st, pn, ss, qs, qr, hd, fl, fc, fa, fb, fm, ek, ep, ev, er) (nI g) x := by
  have a9 : ¬ nI g = 9 := fun z => h9 ((nI_eq (b := 9) (by omega) (by decide)).mp z)
  have a15 : ¬ nI g = 15 := fun z => h15 ((nI_eq (b := 15) (by omega) (by decide)).mp z)
  unfold wpY_actOk
  refine br_f (nI_nlt (b := 1) h1 (by omega)) (br_f (nI_nlt (a := 31) (by omega) (by decide)) (br_f a9 (br_f a15 (br_f n1 (br_f n2 (br_c (fun _ => h) fun z => br_t ?_ h))))))
  exact Int32.lt_of_lt_of_le (by decide) (hx.resolve_left z)
theorem sx_seta1 {post : Int32 → SX → Prop} {p g : Nat} {x f : Int32} (hp : p < np) (hn : np ≤ 4) (hl : lf p = 0) (h1 : 1 ≤ g) (hg : g < 32) (h9 : g ≠ 9) (h15 : g ≠ 15) (hx : x = -2 ∨ x = -1 ∨ ∃ j, j < 32 ∧ x = nI j) (h : post (hd (p * 32 + g)) (nI np, nI nd, ls, et, nI es, co, ca, pc, ra, rb, sp, mk, dp, fc, fa, fb, fm, sl, st, lf, su, pg, ss, ql, qs, qr, upd hd (p * 32 + g) x, upd fl (p * 32 + g) (f &&& 7), ek, ep, ev, er)) : wpX_setAction post (nI np, nI nd, ls, et, nI es, co, ca, pc, ra, rb, sp, mk, dp, fc, fa, fb, fm, sl, st, lf, su, pg, ss, ql, qs, qr, hd, fl, ek, ep, ev, er) (nI p) (nI g) x f := by
  have e3 : vp_in (nI (p * 32 + g)) 128 := vp_in_nI (by omega) (by decide)
  have e4 : (nI (p * 32 + g)).toNatClampNeg = p * 32 + g := nI_clamp (by omega)
  unfold wpX_setAction
  refine sx_al1 hp hn hl ?_
  refine br_f (by decide) ?_
  refine sx_cat1 h1 hg h9 h15 ?_
  refine br_f (by decide) ?_
  refine sx_hd1 hx ?_
  refine br_f (by decide) ?_
  simp only [sk_ix32, e3, e4, true_implies, false_implies, not_true_eq_false, not_false_eq_true, and_true, true_and, forall_eq, implies_true]
  exact h
theorem sx_seta0 {post : Int32 → SX → Prop} {p : Nat} {k x f : Int32} (hp : p < np) (hn : np ≤ 4) (hl : lf p = 0) (hk : sk_nc k) (h : post (-22) (nI np, nI nd, ls, et, nI es, co, ca, pc, ra, rb, sp, mk, dp, fc, fa, fb, fm, sl, st, lf, su, pg, ss, ql, qs, qr, hd, fl, ek, ep, ev, er)) : wpX_setAction post (nI np, nI nd, ls, et, nI es, co, ca, pc, ra, rb, sp, mk, dp, fc, fa, fb, fm, sl, st, lf, su, pg, ss, ql, qs, qr, hd, fl, ek, ep, ev, er) (nI p) k x f := by
  unfold wpX_setAction
  refine sx_al1 hp hn hl ?_
  refine br_f (by decide) ?_
  refine sx_cat0 hk ?_
  exact br_t rfl h
theorem sx_seta2 {post : Int32 → SX → Prop} {p g : Nat} {x f : Int32} (hp : p < np) (hn : np ≤ 4) (hl : lf p = 0) (h1 : 1 ≤ g) (hg : g < 32) (h9 : g ≠ 9) (h15 : g ≠ 15) (n1 : ¬ x = -1) (n2 : ¬ x = -2) (hx : x < 0 ∨ nI 32 ≤ x) (h : post (-22) (nI np, nI nd, ls, et, nI es, co, ca, pc, ra, rb, sp, mk, dp, fc, fa, fb, fm, sl, st, lf, su, pg, ss, ql, qs, qr, hd, fl, ek, ep, ev, er)) : wpX_setAction post (nI np, nI nd, ls, et, nI es, co, ca, pc, ra, rb, sp, mk, dp, fc, fa, fb, fm, sl, st, lf, su, pg, ss, ql, qs, qr, hd, fl, ek, ep, ev, er) (nI p) (nI g) x f := by
  unfold wpX_setAction
  refine sx_al1 hp hn hl ?_
  refine br_f (by decide) ?_
  refine sx_cat1 h1 hg h9 h15 ?_
  refine br_f (by decide) ?_
  refine sx_hd0 n1 n2 hx ?_
  exact br_t rfl h
theorem sk_deliver {p : Nat} (I : sk_Inv np nd es pg pn ss dp ql qs hd sl mk fm) (hp : p < 4) : (∃ u v, sk_Rel np u v ∧ (∀ post : Int32 → SX → Prop, post 1 u → wpX_deliver post (nI np, nI nd, ls, et, nI es, co, ca, pc, ra, rb, sp, mk, dp, fc, fa, fb, fm, sl, st, lf, su, pg, ss, ql, qs, qr, hd, fl, ek, ep, ev, er) (nI p)) ∧ (∀ post : Int32 → SY → Prop, post 1 v → wpY_deliver post (nI np, nI nd, ls, et, nI es, co, ca, pc, ra, rb, sp, mk, dp, sl, lf, su, ql, st, pn, ss, qs, qr, hd, fl, fc, fa, fb, fm, ek, ep, ev, er) (nI p))) ∨ ((∀ post : Int32 → SX → Prop, post 0 (nI np, nI nd, ls, et, nI es, co, ca, pc, ra, rb, sp, mk, dp, fc, fa, fb, fm, sl, st, lf, su, pg, ss, ql, qs, qr, hd, fl, ek, ep, ev, er) → wpX_deliver post (nI np, nI nd, ls, et, nI es, co, ca, pc, ra, rb, sp, mk, dp, fc, fa, fb, fm, sl, st, lf, su, pg, ss, ql, qs, qr, hd, fl, ek, ep, ev, er) (nI p)) ∧ (∀ post : Int32 → SY → Prop, post 0 (nI np, nI nd, ls, et, nI es, co, ca, pc, ra, rb, sp, mk, dp, sl, lf, su, ql, st, pn, ss, qs, qr, hd, fl, fc, fa, fb, fm, ek, ep, ev, er) → wpY_deliver post (nI np, nI nd, ls, et, nI es, co, ca, pc, ra, rb, sp, mk, dp, sl, lf, su, ql, st, pn, ss, qs, qr, hd, fl, fc, fa, fb, fm, ek, ep, ev, er) (nI p))) := by
  have hB := I.2.2.2.1 p hp
  rcases sk_sel (fun i => ¬ pn (p * 16 + i) = 0 ∧ mk p &&& ((1 : Int32) <<< (nI i &&& 31)) = 0) 1 16 with ⟨g, h1, hg, ⟨hn, hx⟩, hm⟩ | hm
  · have hm' : ∀ k, 1 ≤ k → k < g → pn (p * 16 + k) = 0 ∨ ¬ mk p &&& ((1 : Int32) <<< (nI k &&& 31)) = 0 := fun k a b => by
      by_cases y : pn (p * 16 + k) = 0
      · exact Or.inl y
      · exact Or.inr fun z => hm k a b ⟨y, z⟩
    obtain ⟨u, v, R, hX, hY⟩ := sk_act (np := np) (nd := nd) (ls := ls) (et := et) (es := es) (co := co) (ca := ca) (pc := pc) (ra := ra) (rb := rb) (sp := sp) (mk := mk) (dp := dp) (fc := fc) (fa := fa) (fb := fb) (fm := fm) (sl := sl) (st := st) (lf := lf) (su := su) (pg := upd pg p (pg p &&& (((1 : Int32) <<< (nI g &&& 31)) ^^^ (-1)))) (ss := upd ss (p * 16 + g) 0) (ql := ql) (qs := qs) (qr := qr) (hd := hd) (fl := fl) (ek := ek) (ep := ep) (ev := ev) (er := er) (pn := upd pn (p * 16 + g) 0) (s := ss (p * 16 + g)) (sk_I_drop hg I) hp h1 (by omega)
    obtain ⟨nd1, es1, ls1, et1, co1, ca1, pc1, ra1, rb1, sp1, mk1, dp1, fc1, fa1, fb1, fm1, sl1, st1, lf1, su1, pg1, pn1, ss1, ql1, qs1, qr1, hd1, fl1, ek1, ep1, ev1, er1, rfl, rfl, I1⟩ := R
    refine Or.inl ⟨(nI np, nI nd1, ls1, et1, nI es1, co1, ca1, pc1, ra1, rb1, sp1, mk1, dp1, fc1, fa1, fb1, fm1, sl1, st1, lf1, su1, pg1, ss1, ql1, qs1, qr1, hd1, fl1, ek1, ep1, ev1, er1), (nI np, nI nd1, ls1, et1, nI es1, co1, ca1, pc1, ra1, rb1, sp1, mk1, dp1, sl1, lf1, su1, ql1, st1, pn1, ss1, qs1, qr1, hd1, fl1, fc1, fa1, fb1, fm1, ek1, ep1, ev1, er1), sk_mk I1, fun post h => ?_, fun post h => ?_⟩
    · unfold wpX_deliver
      refine sx_low hp h1 hg (fun z => ((sk_PB_r hB h1 hg).mp z).elim hn (fun y => y hx)) (fun j a b => (sk_PB_r hB a (by omega)).mpr (hm' j a b)) ?_
      refine br_f (nI_ne0 h1 (by omega)) ⟨by rw [sk_ix16]; exact vp_in_nI (by omega) (by decide), nm_r (by rw [sk_ix16, nI_clamp (by omega)]) ?_⟩
      refine sx_drop hp hg ?_
      exact hX _ h
    · unfold wpY_deliver
      exact ⟨g - 1 + 2, sy_7_found hp h1 hg hn hx (hY _ h) (g - 1) 1 (by omega) hm'⟩
  · have hm' : ∀ k, 1 ≤ k → k < 16 → pn (p * 16 + k) = 0 ∨ ¬ mk p &&& ((1 : Int32) <<< (nI k &&& 31)) = 0 := fun k a b => by
      by_cases y : pn (p * 16 + k) = 0
      · exact Or.inl y
      · exact Or.inr fun z => hm k a b ⟨y, z⟩
    obtain ⟨l, hl, e, hq⟩ := I.2.2.2.2.2.2.1 p hp
    rcases sk_sel (fun j => mk p &&& ((1 : Int32) <<< (qs (p * 8 + j) &&& 31)) = 0) 0 l with ⟨j, _, hj, hx, hm2⟩ | hm2
    · obtain ⟨g, h1, hg, hqs⟩ := hq j hj
      obtain ⟨l', rfl⟩ : ∃ l', l = l' + 1 := ⟨l - 1, by omega⟩
      obtain ⟨u, v, R, hX, hY⟩ := sk_act (np := np) (nd := nd) (ls := ls) (et := et) (es := es) (co := co) (ca := ca) (pc := pc) (ra := ra) (rb := rb) (sp := sp) (mk := mk) (dp := dp) (fc := fc) (fa := fa) (fb := fb) (fm := fm) (sl := sl) (st := st) (lf := lf) (su := su) (pg := pg) (ss := ss) (ql := upd ql p (nI l')) (qs := sk_shf qs (p * 8 + j) (l' - j)) (qr := sk_shf qr (p * 8 + j) (l' - j)) (hd := hd) (fl := fl) (ek := ek) (ep := ep) (ev := ev) (er := er) (pn := pn) (s := qr (p * 8 + j)) (sk_I_rem hp hl e (by omega) I) hp h1 hg
      obtain ⟨nd1, es1, ls1, et1, co1, ca1, pc1, ra1, rb1, sp1, mk1, dp1, fc1, fa1, fb1, fm1, sl1, st1, lf1, su1, pg1, pn1, ss1, ql1, qs1, qr1, hd1, fl1, ek1, ep1, ev1, er1, rfl, rfl, I1⟩ := R
      refine Or.inl ⟨(nI np, nI nd1, ls1, et1, nI es1, co1, ca1, pc1, ra1, rb1, sp1, mk1, dp1, fc1, fa1, fb1, fm1, sl1, st1, lf1, su1, pg1, ss1, ql1, qs1, qr1, hd1, fl1, ek1, ep1, ev1, er1), (nI np, nI nd1, ls1, et1, nI es1, co1, ca1, pc1, ra1, rb1, sp1, mk1, dp1, sl1, lf1, su1, ql1, st1, pn1, ss1, qs1, qr1, hd1, fl1, fc1, fa1, fb1, fm1, ek1, ep1, ev1, er1), sk_mk I1, fun post h => ?_, fun post h => ?_⟩
      · unfold wpX_deliver
        refine sx_low0 hp (fun j a b => (sk_PB_r hB a b).mpr (hm' j a b)) ?_
        refine br_t rfl ?_
        unfold wpX_earliestDeliverable
        refine ⟨j + 1, sx_ear_l hp hl e hj hx ?_ j 0 (by omega) (fun k a b => hm2 k a b)⟩
        refine br_t (nI_pos' (by omega)) (nm_r (sk_ix8 p j) ⟨vp_in_nI (by omega) (by decide), nm_r (e' := nI g) (by rw [nI_clamp (by omega)]; exact hqs) ⟨vp_in_nI (by omega) (by decide), nm_r (e' := qr (p * 8 + j)) (by rw [nI_clamp (by omega)]) ?_⟩⟩)
        refine sx_remove hp hl e (by omega) ?_
        exact hX _ h
      · unfold wpY_deliver
        exact ⟨16, sy_7_none hp ⟨j + 2, sy_79_found hp hl e (by omega) h1 hg hqs hx (hY _ h) j 0 (by omega) (fun k a b => hm2 k a b)⟩ 15 1 (by omega) hm'⟩
    · refine Or.inr ⟨fun post h => ?_, fun post h => ?_⟩
      · unfold wpX_deliver
        refine sx_low0 hp (fun j a b => (sk_PB_r hB a b).mpr (hm' j a b)) ?_
        refine br_t rfl ?_
        unfold wpX_earliestDeliverable
        refine ⟨l + 1, sx_ear0_l hp hl e ?_ l 0 (by omega) (fun k a b => hm2 k a b)⟩
        exact br_f (by decide) h
      · unfold wpY_deliver
        exact ⟨16, sy_7_none hp ⟨l + 1, sy_79_none hp hl e (br_t rfl h) l 0 (by omega) (fun k a b => hm2 k a b)⟩ 15 1 (by omega) hm'⟩
end
end
section
section
variable {np nd es : Nat} {ls et : Int32} {co ca pc ra rb sp mk dp fc fa fb fm sl st lf su pg pn ss ql qs qr hd fl ek ep ev er : Nat → Int32}
theorem sx_x0 {post : SX → Prop} {p c : Nat} (hp : p < 4) (hc : c < 32) (ec : pc p = nI c) (ho : co (p * 32 + c) = 0) (hs : es ≤ 128) (h : post (nI np, nI nd, ls, et + 1, nI (sk_lgN es), co, ca, pc, ra, rb, sp, mk, dp, fc, fa, fb, fm, upd sl p 0, upd st p 0, upd lf p 3, upd su p (ra p), upd pg p 0, sk_clr ss (p * 16) 16, upd ql p 0, qs, qr, hd, fl, sk_lgA ek es 7, sk_lgA ep es (nI p), sk_lgA ev es (ra p), sk_lgA er es 0)) : wpX_execute post (nI np, nI nd, ls, et, nI es, co, ca, pc, ra, rb, sp, mk, dp, fc, fa, fb, fm, sl, st, lf, su, pg, ss, ql, qs, qr, hd, fl, ek, ep, ev, er) (nI p) := by
  have e1 : vp_in (nI p) 4 := vp_in_nI hp (by decide)
  have e2 : (nI p).toNatClampNeg = p := nI_clamp (by omega)
  have e3 : vp_in (nI (p * 32 + c)) 128 := vp_in_nI (by omega) (by decide)
  have e4 : (nI (p * 32 + c)).toNatClampNeg = p * 32 + c := nI_clamp (by omega)
  have e5 : nI p * 32 + pc (nI p).toNatClampNeg = nI (p * 32 + c) := by rw [e2, ec, sk_ix32]
  have ho' : co (nI (p * 32 + c)).toNatClampNeg = 0 := by rw [e4]; exact ho
  have hk' : ca (nI (p * 32 + c)).toNatClampNeg = ca (p * 32 + c) := by rw [e4]
  unfold wpX_execute
  refine ⟨e1, nm_r e5 ⟨e3, nm_r ho' ⟨e3, nm_r hk' (br_f (by decide) (br_f (by decide) (br_t rfl ?_)))⟩⟩⟩
  simp only [e1, e2, true_implies, false_implies, not_true_eq_false, not_false_eq_true, and_true, true_and, forall_eq, implies_true]
  refine sx_die hp ?_
  refine sx_log hs ?_
  exact h
theorem sx_x4 {post : SX → Prop} {p c : Nat} (hp : p < 4) (hc : c < 32) (ec : pc p = nI c) (ho : co (p * 32 + c) = 4) (h : post (nI np, nI nd, ls, et, nI es, co, ca, upd pc p (ca (p * 32 + c)), ra, rb, sp, mk, dp, fc, fa, fb, fm, sl, st, lf, su, pg, ss, ql, qs, qr, hd, fl, ek, ep, ev, er)) : wpX_execute post (nI np, nI nd, ls, et, nI es, co, ca, pc, ra, rb, sp, mk, dp, fc, fa, fb, fm, sl, st, lf, su, pg, ss, ql, qs, qr, hd, fl, ek, ep, ev, er) (nI p) := by
  have e1 : vp_in (nI p) 4 := vp_in_nI hp (by decide)
  have e2 : (nI p).toNatClampNeg = p := nI_clamp (by omega)
  have e3 : vp_in (nI (p * 32 + c)) 128 := vp_in_nI (by omega) (by decide)
  have e4 : (nI (p * 32 + c)).toNatClampNeg = p * 32 + c := nI_clamp (by omega)
  have e5 : nI p * 32 + pc (nI p).toNatClampNeg = nI (p * 32 + c) := by rw [e2, ec, sk_ix32]
  have ho' : co (nI (p * 32 + c)).toNatClampNeg = 4 := by rw [e4]; exact ho
  have hk' : ca (nI (p * 32 + c)).toNatClampNeg = ca (p * 32 + c) := by rw [e4]
  unfold wpX_execute
  refine ⟨e1, nm_r e5 ⟨e3, nm_r ho' ⟨e3, nm_r hk' (br_f (by decide) (br_f (by decide) (br_f (by decide) (br_f (by decide) (br_f (by decide) (br_f (by decide) (br_t rfl ?_)))))))⟩⟩⟩
  simp only [e1, e2, true_implies, false_implies, not_true_eq_false, not_false_eq_true, and_true, true_and, forall_eq, implies_true]
  exact h
theorem sx_x5 {post : SX → Prop} {p c : Nat} (hp : p < 4) (hc : c < 32) (ec : pc p = nI c) (ho : co (p * 32 + c) = 5) (hz : ra p = 0) (h : post (nI np, nI nd, ls, et, nI es, co, ca, upd pc p (pc p + 1), ra, rb, sp, mk, dp, fc, fa, fb, fm, sl, st, lf, su, pg, ss, ql, qs, qr, hd, fl, ek, ep, ev, er)) : wpX_execute post (nI np, nI nd, ls, et, nI es, co, ca, pc, ra, rb, sp, mk, dp, fc, fa, fb, fm, sl, st, lf, su, pg, ss, ql, qs, qr, hd, fl, ek, ep, ev, er) (nI p) := by
  have e1 : vp_in (nI p) 4 := vp_in_nI hp (by decide)
  have e2 : (nI p).toNatClampNeg = p := nI_clamp (by omega)
  have e3 : vp_in (nI (p * 32 + c)) 128 := vp_in_nI (by omega) (by decide)
  have e4 : (nI (p * 32 + c)).toNatClampNeg = p * 32 + c := nI_clamp (by omega)
  have e5 : nI p * 32 + pc (nI p).toNatClampNeg = nI (p * 32 + c) := by rw [e2, ec, sk_ix32]
  have ho' : co (nI (p * 32 + c)).toNatClampNeg = 5 := by rw [e4]; exact ho
  have hk' : ca (nI (p * 32 + c)).toNatClampNeg = ca (p * 32 + c) := by rw [e4]
  unfold wpX_execute
  refine ⟨e1, nm_r e5 ⟨e3, nm_r ho' ⟨e3, nm_r hk' (br_f (by decide) (br_f (by decide) (br_f (by decide) (br_f (by decide) (br_f (by decide) (br_f (by decide) (br_f (by decide) (br_t rfl ?_))))))))⟩⟩⟩
  simp only [e1, e2, hz, true_implies, false_implies, not_true_eq_false, not_false_eq_true, and_true, true_and, forall_eq, implies_true]
  exact h
theorem sx_x5b {post : SX → Prop} {p c : Nat} (hp : p < 4) (hc : c < 32) (ec : pc p = nI c) (ho : co (p * 32 + c) = 5) (hz : ¬ ra p = 0) (h : post (nI np, nI nd, ls, et, nI es, co, ca, upd pc p (ca (p * 32 + c)), ra, rb, sp, mk, dp, fc, fa, fb, fm, sl, st, lf, su, pg, ss, ql, qs, qr, hd, fl, ek, ep, ev, er)) : wpX_execute post (nI np, nI nd, ls, et, nI es, co, ca, pc, ra, rb, sp, mk, dp, fc, fa, fb, fm, sl, st, lf, su, pg, ss, ql, qs, qr, hd, fl, ek, ep, ev, er) (nI p) := by
  have e1 : vp_in (nI p) 4 := vp_in_nI hp (by decide)
  have e2 : (nI p).toNatClampNeg = p := nI_clamp (by omega)
  have e3 : vp_in (nI (p * 32 + c)) 128 := vp_in_nI (by omega) (by decide)
  have e4 : (nI (p * 32 + c)).toNatClampNeg = p * 32 + c := nI_clamp (by omega)
  have e5 : nI p * 32 + pc (nI p).toNatClampNeg = nI (p * 32 + c) := by rw [e2, ec, sk_ix32]
  have ho' : co (nI (p * 32 + c)).toNatClampNeg = 5 := by rw [e4]; exact ho
  have hk' : ca (nI (p * 32 + c)).toNatClampNeg = ca (p * 32 + c) := by rw [e4]
  unfold wpX_execute
  refine ⟨e1, nm_r e5 ⟨e3, nm_r ho' ⟨e3, nm_r hk' (br_f (by decide) (br_f (by decide) (br_f (by decide) (br_f (by decide) (br_f (by decide) (br_f (by decide) (br_f (by decide) (br_t rfl ?_))))))))⟩⟩⟩
  simp only [e1, e2, hz, true_implies, false_implies, not_true_eq_false, not_false_eq_true, and_true, true_and, forall_eq, implies_true]
  exact h
theorem sx_x9 {post : SX → Prop} {p c : Nat} (hp : p < 4) (hc : c < 32) (ec : pc p = nI c) (ho : co (p * 32 + c) = 9) (hz : ¬ (ca (p * 32 + c)) ≤ 0) (h : post (nI np, nI nd, ls, et, nI es, co, ca, pc, ra, rb, sp, mk, dp, fc, fa, fb, fm, upd sl p (ca (p * 32 + c)), st, lf, su, pg, ss, ql, qs, qr, hd, fl, ek, ep, ev, er)) : wpX_execute post (nI np, nI nd, ls, et, nI es, co, ca, pc, ra, rb, sp, mk, dp, fc, fa, fb, fm, sl, st, lf, su, pg, ss, ql, qs, qr, hd, fl, ek, ep, ev, er) (nI p) := by
  have e1 : vp_in (nI p) 4 := vp_in_nI hp (by decide)
  have e2 : (nI p).toNatClampNeg = p := nI_clamp (by omega)
  have e3 : vp_in (nI (p * 32 + c)) 128 := vp_in_nI (by omega) (by decide)
  have e4 : (nI (p * 32 + c)).toNatClampNeg = p * 32 + c := nI_clamp (by omega)
  have e5 : nI p * 32 + pc (nI p).toNatClampNeg = nI (p * 32 + c) := by rw [e2, ec, sk_ix32]
  have ho' : co (nI (p * 32 + c)).toNatClampNeg = 9 := by rw [e4]; exact ho
  have hk' : ca (nI (p * 32 + c)).toNatClampNeg = ca (p * 32 + c) := by rw [e4]
  unfold wpX_execute
  refine ⟨e1, nm_r e5 ⟨e3, nm_r ho' ⟨e3, nm_r hk' (br_f (by decide) (br_f (by decide) (br_f (by decide) (br_f (by decide) (br_f (by decide) (br_f (by decide) (br_f (by decide) (br_f (by decide) (br_f (by decide) (br_f (by decide) (br_f (by decide) (br_t rfl ?_))))))))))))⟩⟩⟩
  simp only [wpX_fallAsleep, e1, e2, hz, true_implies, false_implies, not_true_eq_false, not_false_eq_true, and_true, true_and, forall_eq, implies_true]
  exact h
theorem sx_x9b {post : SX → Prop} {p c : Nat} (hp : p < 4) (hc : c < 32) (ec : pc p = nI c) (ho : co (p * 32 + c) = 9) (hz : (ca (p * 32 + c)) ≤ 0) (h : post (nI np, nI nd, ls, et, nI es, co, ca, upd pc p (pc p + 1), upd ra p 0, rb, sp, mk, dp, fc, fa, fb, fm, sl, st, lf, su, pg, ss, ql, qs, qr, hd, fl, ek, ep, ev, er)) : wpX_execute post (nI np, nI nd, ls, et, nI es, co, ca, pc, ra, rb, sp, mk, dp, fc, fa, fb, fm, sl, st, lf, su, pg, ss, ql, qs, qr, hd, fl, ek, ep, ev, er) (nI p) := by
  have e1 : vp_in (nI p) 4 := vp_in_nI hp (by decide)
  have e2 : (nI p).toNatClampNeg = p := nI_clamp (by omega)
  have e3 : vp_in (nI (p * 32 + c)) 128 := vp_in_nI (by omega) (by decide)
  have e4 : (nI (p * 32 + c)).toNatClampNeg = p * 32 + c := nI_clamp (by omega)
  have e5 : nI p * 32 + pc (nI p).toNatClampNeg = nI (p * 32 + c) := by rw [e2, ec, sk_ix32]
  have ho' : co (nI (p * 32 + c)).toNatClampNeg = 9 := by rw [e4]; exact ho
  have hk' : ca (nI (p * 32 + c)).toNatClampNeg = ca (p * 32 + c) := by rw [e4]
  unfold wpX_execute
  refine ⟨e1, nm_r e5 ⟨e3, nm_r ho' ⟨e3, nm_r hk' (br_f (by decide) (br_f (by decide) (br_f (by decide) (br_f (by decide) (br_f (by decide) (br_f (by decide) (br_f (by decide) (br_f (by decide) (br_f (by decide) (br_f (by decide) (br_f (by decide) (br_t rfl ?_))))))))))))⟩⟩⟩
  simp only [wpX_fallAsleep, e1, e2, hz, true_implies, false_implies, not_true_eq_false, not_false_eq_true, and_true, true_and, forall_eq, implies_true]
  exact h
theorem sx_x10 {post : SX → Prop} {p c : Nat} (hp : p < 4) (hc : c < 32) (ec : pc p = nI c) (ho : co (p * 32 + c) = 10) {d : Nat} (hd4 : d + 1 ≤ 4) (ed : dp p = nI (d + 1)) (h : post (nI np, nI nd, ls, et, nI es, co, ca, upd pc p (fc (p * 4 + d)), upd ra p (fa (p * 4 + d)), upd rb p (fb (p * 4 + d)), upd sp p (sp p + 4), upd mk p (fm (p * 4 + d)), upd dp p (nI d), fc, fa, fb, fm, sl, st, lf, su, pg, ss, ql, qs, qr, hd, fl, ek, ep, ev, er)) : wpX_execute post (nI np, nI nd, ls, et, nI es, co, ca, pc, ra, rb, sp, mk, dp, fc, fa, fb, fm, sl, st, lf, su, pg, ss, ql, qs, qr, hd, fl, ek, ep, ev, er) (nI p) := by
  have e1 : vp_in (nI p) 4 := vp_in_nI hp (by decide)
  have e2 : (nI p).toNatClampNeg = p := nI_clamp (by omega)
  have e3 : vp_in (nI (p * 32 + c)) 128 := vp_in_nI (by omega) (by decide)
  have e4 : (nI (p * 32 + c)).toNatClampNeg = p * 32 + c := nI_clamp (by omega)
  have e5 : nI p * 32 + pc (nI p).toNatClampNeg = nI (p * 32 + c) := by rw [e2, ec, sk_ix32]
  have ho' : co (nI (p * 32 + c)).toNatClampNeg = 10 := by rw [e4]; exact ho
  have hk' : ca (nI (p * 32 + c)).toNatClampNeg = ca (p * 32 + c) := by rw [e4]
  unfold wpX_execute
  refine ⟨e1, nm_r e5 ⟨e3, nm_r ho' ⟨e3, nm_r hk' (br_f (by decide) (br_f (by decide) (br_f (by decide) (br_f (by decide) (br_f (by decide) (br_f (by decide) (br_f (by decide) (br_f (by decide) (br_f (by decide) (br_f (by decide) (br_f (by decide) (br_f (by decide) (br_t rfl ?_)))))))))))))⟩⟩⟩
  have z : ¬ nI (d + 1) ≤ 0 := nI_nle (by omega) (by omega)
  have e6 : vp_in (nI (p * 4 + d)) 16 := vp_in_nI (by omega) (by decide)
  have e7 : (nI (p * 4 + d)).toNatClampNeg = p * 4 + d := nI_clamp (by omega)
  simp only [wpX_returnFromHandler, wpX_popFrame, e1, e2, ed, z, nI_pred, pk_us, sk_ix4, e6, e7, true_implies, false_implies, not_true_eq_false, not_false_eq_true, and_true, true_and, forall_eq, implies_true]
  exact h
theorem sx_x10b {post : SX → Prop} {p c : Nat} (hp : p < 4) (hc : c < 32) (ec : pc p = nI c) (ho : co (p * 32 + c) = 10) (ed : dp p = 0) (h : post (nI np, nI nd, ls, et, nI es, co, ca, upd pc p (pc p + 1), upd ra p (-22), rb, sp, mk, dp, fc, fa, fb, fm, sl, st, lf, su, pg, ss, ql, qs, qr, hd, fl, ek, ep, ev, er)) : wpX_execute post (nI np, nI nd, ls, et, nI es, co, ca, pc, ra, rb, sp, mk, dp, fc, fa, fb, fm, sl, st, lf, su, pg, ss, ql, qs, qr, hd, fl, ek, ep, ev, er) (nI p) := by
  have e1 : vp_in (nI p) 4 := vp_in_nI hp (by decide)
  have e2 : (nI p).toNatClampNeg = p := nI_clamp (by omega)
  have e3 : vp_in (nI (p * 32 + c)) 128 := vp_in_nI (by omega) (by decide)
  have e4 : (nI (p * 32 + c)).toNatClampNeg = p * 32 + c := nI_clamp (by omega)
  have e5 : nI p * 32 + pc (nI p).toNatClampNeg = nI (p * 32 + c) := by rw [e2, ec, sk_ix32]
  have ho' : co (nI (p * 32 + c)).toNatClampNeg = 10 := by rw [e4]; exact ho
  have hk' : ca (nI (p * 32 + c)).toNatClampNeg = ca (p * 32 + c) := by rw [e4]
  unfold wpX_execute
  refine ⟨e1, nm_r e5 ⟨e3, nm_r ho' ⟨e3, nm_r hk' (br_f (by decide) (br_f (by decide) (br_f (by decide) (br_f (by decide) (br_f (by decide) (br_f (by decide) (br_f (by decide) (br_f (by decide) (br_f (by decide) (br_f (by decide) (br_f (by decide) (br_f (by decide) (br_t rfl ?_)))))))))))))⟩⟩⟩
  have z : (0 : Int32) ≤ 0 := by decide
  simp only [wpX_returnFromHandler, e1, e2, ed, z, true_implies, false_implies, not_true_eq_false, not_false_eq_true, and_true, true_and, forall_eq, implies_true]
  exact h
theorem sx_x1 {post : SX → Prop} {p c : Nat} (hp : p < 4) (hc : c < 32) (ec : pc p = nI c) (ho : co (p * 32 + c) = 1) (h : post (nI np, nI nd, ls, et, nI es, co, ca, upd pc p (pc p + 1), upd ra p (ca (p * 32 + c)), rb, sp, mk, dp, fc, fa, fb, fm, sl, st, lf, su, pg, ss, ql, qs, qr, hd, fl, ek, ep, ev, er)) : wpX_execute post (nI np, nI nd, ls, et, nI es, co, ca, pc, ra, rb, sp, mk, dp, fc, fa, fb, fm, sl, st, lf, su, pg, ss, ql, qs, qr, hd, fl, ek, ep, ev, er) (nI p) := by
  have e1 : vp_in (nI p) 4 := vp_in_nI hp (by decide)
  have e2 : (nI p).toNatClampNeg = p := nI_clamp (by omega)
  have e3 : vp_in (nI (p * 32 + c)) 128 := vp_in_nI (by omega) (by decide)
  have e4 : (nI (p * 32 + c)).toNatClampNeg = p * 32 + c := nI_clamp (by omega)
  have e5 : nI p * 32 + pc (nI p).toNatClampNeg = nI (p * 32 + c) := by rw [e2, ec, sk_ix32]
  have ho' : co (nI (p * 32 + c)).toNatClampNeg = 1 := by rw [e4]; exact ho
  have hk' : ca (nI (p * 32 + c)).toNatClampNeg = ca (p * 32 + c) := by rw [e4]
  unfold wpX_execute
  refine ⟨e1, nm_r e5 ⟨e3, nm_r ho' ⟨e3, nm_r hk' (br_f (by decide) (br_f (by decide) (br_f (by decide) (br_t rfl ?_))))⟩⟩⟩
  unfold wX_execute_259 wpX_compute
  refine (br_f (by decide) (br_f (by decide) (br_t rfl ?_)))
  simp only [e1, e2, true_implies, false_implies, not_true_eq_false, not_false_eq_true, and_true, true_and, forall_eq, implies_true]
  exact h
theorem sx_x2 {post : SX → Prop} {p c : Nat} (hp : p < 4) (hc : c < 32) (ec : pc p = nI c) (ho : co (p * 32 + c) = 2) (h : post (nI np, nI nd, ls, et, nI es, co, ca, upd pc p (pc p + 1), ra, upd rb p (ca (p * 32 + c)), sp, mk, dp, fc, fa, fb, fm, sl, st, lf, su, pg, ss, ql, qs, qr, hd, fl, ek, ep, ev, er)) : wpX_execute post (nI np, nI nd, ls, et, nI es, co, ca, pc, ra, rb, sp, mk, dp, fc, fa, fb, fm, sl, st, lf, su, pg, ss, ql, qs, qr, hd, fl, ek, ep, ev, er) (nI p) := by
  have e1 : vp_in (nI p) 4 := vp_in_nI hp (by decide)
  have e2 : (nI p).toNatClampNeg = p := nI_clamp (by omega)
  have e3 : vp_in (nI (p * 32 + c)) 128 := vp_in_nI (by omega) (by decide)
  have e4 : (nI (p * 32 + c)).toNatClampNeg = p * 32 + c := nI_clamp (by omega)
  have e5 : nI p * 32 + pc (nI p).toNatClampNeg = nI (p * 32 + c) := by rw [e2, ec, sk_ix32]
  have ho' : co (nI (p * 32 + c)).toNatClampNeg = 2 := by rw [e4]; exact ho
  have hk' : ca (nI (p * 32 + c)).toNatClampNeg = ca (p * 32 + c) := by rw [e4]
  unfold wpX_execute
  refine ⟨e1, nm_r e5 ⟨e3, nm_r ho' ⟨e3, nm_r hk' (br_f (by decide) (br_f (by decide) (br_f (by decide) (br_f (by decide) (br_t rfl ?_)))))⟩⟩⟩
  unfold wX_execute_259 wpX_compute
  refine (br_f (by decide) (br_f (by decide) (br_f (by decide) (br_t rfl ?_))))
  simp only [e1, e2, true_implies, false_implies, not_true_eq_false, not_false_eq_true, and_true, true_and, forall_eq, implies_true]
  exact h
theorem sx_x3 {post : SX → Prop} {p c : Nat} (hp : p < 4) (hc : c < 32) (ec : pc p = nI c) (ho : co (p * 32 + c) = 3) (h : post (nI np, nI nd, ls, et, nI es, co, ca, upd pc p (pc p + 1), upd ra p (ra p + ca (p * 32 + c)), rb, sp, mk, dp, fc, fa, fb, fm, sl, st, lf, su, pg, ss, ql, qs, qr, hd, fl, ek, ep, ev, er)) : wpX_execute post (nI np, nI nd, ls, et, nI es, co, ca, pc, ra, rb, sp, mk, dp, fc, fa, fb, fm, sl, st, lf, su, pg, ss, ql, qs, qr, hd, fl, ek, ep, ev, er) (nI p) := by
  have e1 : vp_in (nI p) 4 := vp_in_nI hp (by decide)
  have e2 : (nI p).toNatClampNeg = p := nI_clamp (by omega)
  have e3 : vp_in (nI (p * 32 + c)) 128 := vp_in_nI (by omega) (by decide)
  have e4 : (nI (p * 32 + c)).toNatClampNeg = p * 32 + c := nI_clamp (by omega)
  have e5 : nI p * 32 + pc (nI p).toNatClampNeg = nI (p * 32 + c) := by rw [e2, ec, sk_ix32]
  have ho' : co (nI (p * 32 + c)).toNatClampNeg = 3 := by rw [e4]; exact ho
  have hk' : ca (nI (p * 32 + c)).toNatClampNeg = ca (p * 32 + c) := by rw [e4]
  unfold wpX_execute
  refine ⟨e1, nm_r e5 ⟨e3, nm_r ho' ⟨e3, nm_r hk' (br_f (by decide) (br_f (by decide) (br_f (by decide) (br_f (by decide) (br_f (by decide) (br_t rfl ?_))))))⟩⟩⟩
  unfold wX_execute_259 wpX_compute
  refine (br_f (by decide) (br_f (by decide) (br_f (by decide) (br_f (by decide) (br_t rfl ?_)))))
  simp only [e1, e2, true_implies, false_implies, not_true_eq_false, not_false_eq_true, and_true, true_and, forall_eq, implies_true]
  exact h
theorem sx_x7a {post : SX → Prop} {p c : Nat} (hp : p < 4) (hc : c < 32) (ec : pc p = nI c) (ho : co (p * 32 + c) = 7) (hk : (ca (p * 32 + c)) = 0) (h : post (nI np, nI nd, ls, et, nI es, co, ca, upd pc p (pc p + 1), upd ra p (mk p), rb, sp, upd mk p ((mk p ||| ra p) &&& (-33282)), dp, fc, fa, fb, fm, sl, st, lf, su, pg, ss, ql, qs, qr, hd, fl, ek, ep, ev, er)) : wpX_execute post (nI np, nI nd, ls, et, nI es, co, ca, pc, ra, rb, sp, mk, dp, fc, fa, fb, fm, sl, st, lf, su, pg, ss, ql, qs, qr, hd, fl, ek, ep, ev, er) (nI p) := by
  have e1 : vp_in (nI p) 4 := vp_in_nI hp (by decide)
  have e2 : (nI p).toNatClampNeg = p := nI_clamp (by omega)
  have e3 : vp_in (nI (p * 32 + c)) 128 := vp_in_nI (by omega) (by decide)
  have e4 : (nI (p * 32 + c)).toNatClampNeg = p * 32 + c := nI_clamp (by omega)
  have e5 : nI p * 32 + pc (nI p).toNatClampNeg = nI (p * 32 + c) := by rw [e2, ec, sk_ix32]
  have ho' : co (nI (p * 32 + c)).toNatClampNeg = 7 := by rw [e4]; exact ho
  have hk' : ca (nI (p * 32 + c)).toNatClampNeg = ca (p * 32 + c) := by rw [e4]
  unfold wpX_execute
  refine ⟨e1, nm_r e5 ⟨e3, nm_r ho' ⟨e3, nm_r hk' (br_f (by decide) (br_f (by decide) (br_f (by decide) (br_f (by decide) (br_f (by decide) (br_f (by decide) (br_f (by decide) (br_f (by decide) (br_f (by decide) (br_t rfl ?_))))))))))⟩⟩⟩
  unfold wX_execute_259 wpX_compute
  refine (br_f (by decide) (br_f (by decide) (br_f (by decide) (br_f (by decide) (br_f (by decide) (br_f (by decide) (br_f (by decide) (br_f (by decide) (br_t rfl ?_)))))))))
  rw [hk]
  unfold wpX_changeMask
  refine ⟨e1, nm_e (br_f (by decide) (br_f (by decide) (br_t rfl ⟨e1, nm_e ?_⟩)))⟩
  simp only [wX_changeMask_84, e1, e2, true_implies, false_implies, not_true_eq_false, not_false_eq_true, and_true, true_and, forall_eq, implies_true]
  exact h
theorem sx_x7b {post : SX → Prop} {p c : Nat} (hp : p < 4) (hc : c < 32) (ec : pc p = nI c) (ho : co (p * 32 + c) = 7) (hk : (ca (p * 32 + c)) = 1) (h : post (nI np, nI nd, ls, et, nI es, co, ca, upd pc p (pc p + 1), upd ra p (mk p), rb, sp, upd mk p ((mk p &&& (ra p ^^^ (-1))) &&& (-33282)), dp, fc, fa, fb, fm, sl, st, lf, su, pg, ss, ql, qs, qr, hd, fl, ek, ep, ev, er)) : wpX_execute post (nI np, nI nd, ls, et, nI es, co, ca, pc, ra, rb, sp, mk, dp, fc, fa, fb, fm, sl, st, lf, su, pg, ss, ql, qs, qr, hd, fl, ek, ep, ev, er) (nI p) := by
  have e1 : vp_in (nI p) 4 := vp_in_nI hp (by decide)
  have e2 : (nI p).toNatClampNeg = p := nI_clamp (by omega)
  have e3 : vp_in (nI (p * 32 + c)) 128 := vp_in_nI (by omega) (by decide)
  have e4 : (nI (p * 32 + c)).toNatClampNeg = p * 32 + c := nI_clamp (by omega)
  have e5 : nI p * 32 + pc (nI p).toNatClampNeg = nI (p * 32 + c) := by rw [e2, ec, sk_ix32]
  have ho' : co (nI (p * 32 + c)).toNatClampNeg = 7 := by rw [e4]; exact ho
  have hk' : ca (nI (p * 32 + c)).toNatClampNeg = ca (p * 32 + c) := by rw [e4]
  unfold wpX_execute
  refine ⟨e1, nm_r e5 ⟨e3, nm_r ho' ⟨e3, nm_r hk' (br_f (by decide) (br_f (by decide) (br_f (by decide) (br_f (by decide) (br_f (by decide) (br_f (by decide) (br_f (by decide) (br_f (by decide) (br_f (by decide) (br_t rfl ?_))))))))))⟩⟩⟩
  unfold wX_execute_259 wpX_compute
  refine (br_f (by decide) (br_f (by decide) (br_f (by decide) (br_f (by decide) (br_f (by decide) (br_f (by decide) (br_f (by decide) (br_f (by decide) (br_t rfl ?_)))))))))
  rw [hk]
  unfold wpX_changeMask
  refine ⟨e1, nm_e (br_f (by decide) (br_f (by decide) (br_f (by decide) (br_t rfl ⟨e1, nm_e ?_⟩))))⟩
  simp only [wX_changeMask_84, e1, e2, true_implies, false_implies, not_true_eq_false, not_false_eq_true, and_true, true_and, forall_eq, implies_true]
  exact h
theorem sx_x7c {post : SX → Prop} {p c : Nat} (hp : p < 4) (hc : c < 32) (ec : pc p = nI c) (ho : co (p * 32 + c) = 7) (hk : (ca (p * 32 + c)) = 2) (h : post (nI np, nI nd, ls, et, nI es, co, ca, upd pc p (pc p + 1), upd ra p (mk p), rb, sp, upd mk p ((ra p) &&& (-33282)), dp, fc, fa, fb, fm, sl, st, lf, su, pg, ss, ql, qs, qr, hd, fl, ek, ep, ev, er)) : wpX_execute post (nI np, nI nd, ls, et, nI es, co, ca, pc, ra, rb, sp, mk, dp, fc, fa, fb, fm, sl, st, lf, su, pg, ss, ql, qs, qr, hd, fl, ek, ep, ev, er) (nI p) := by
  have e1 : vp_in (nI p) 4 := vp_in_nI hp (by decide)
  have e2 : (nI p).toNatClampNeg = p := nI_clamp (by omega)
  have e3 : vp_in (nI (p * 32 + c)) 128 := vp_in_nI (by omega) (by decide)
  have e4 : (nI (p * 32 + c)).toNatClampNeg = p * 32 + c := nI_clamp (by omega)
  have e5 : nI p * 32 + pc (nI p).toNatClampNeg = nI (p * 32 + c) := by rw [e2, ec, sk_ix32]
  have ho' : co (nI (p * 32 + c)).toNatClampNeg = 7 := by rw [e4]; exact ho
  have hk' : ca (nI (p * 32 + c)).toNatClampNeg = ca (p * 32 + c) := by rw [e4]
  unfold wpX_execute
  refine ⟨e1, nm_r e5 ⟨e3, nm_r ho' ⟨e3, nm_r hk' (br_f (by decide) (br_f (by decide) (br_f (by decide) (br_f (by decide) (br_f (by decide) (br_f (by decide) (br_f (by decide) (br_f (by decide) (br_f (by decide) (br_t rfl ?_))))))))))⟩⟩⟩
  unfold wX_execute_259 wpX_compute
  refine (br_f (by decide) (br_f (by decide) (br_f (by decide) (br_f (by decide) (br_f (by decide) (br_f (by decide) (br_f (by decide) (br_f (by decide) (br_t rfl ?_)))))))))
  rw [hk]
  unfold wpX_changeMask
  refine ⟨e1, nm_e (br_f (by decide) (br_f (by decide) (br_f (by decide) (br_f (by decide) (br_t rfl ⟨e1, nm_e ?_⟩)))))⟩
  simp only [wX_changeMask_84, e1, e2, true_implies, false_implies, not_true_eq_false, not_false_eq_true, and_true, true_and, forall_eq, implies_true]
  exact h
theorem sx_x7d {post : SX → Prop} {p c : Nat} (hp : p < 4) (hc : c < 32) (ec : pc p = nI c) (ho : co (p * 32 + c) = 7) (k0 : ¬ (ca (p * 32 + c)) = 0) (k1 : ¬ (ca (p * 32 + c)) = 1) (k2 : ¬ (ca (p * 32 + c)) = 2) (h : post (nI np, nI nd, ls, et, nI es, co, ca, upd pc p (pc p + 1), upd ra p (-22), rb, sp, mk, dp, fc, fa, fb, fm, sl, st, lf, su, pg, ss, ql, qs, qr, hd, fl, ek, ep, ev, er)) : wpX_execute post (nI np, nI nd, ls, et, nI es, co, ca, pc, ra, rb, sp, mk, dp, fc, fa, fb, fm, sl, st, lf, su, pg, ss, ql, qs, qr, hd, fl, ek, ep, ev, er) (nI p) := by
  have e1 : vp_in (nI p) 4 := vp_in_nI hp (by decide)
  have e2 : (nI p).toNatClampNeg = p := nI_clamp (by omega)
  have e3 : vp_in (nI (p * 32 + c)) 128 := vp_in_nI (by omega) (by decide)
  have e4 : (nI (p * 32 + c)).toNatClampNeg = p * 32 + c := nI_clamp (by omega)
  have e5 : nI p * 32 + pc (nI p).toNatClampNeg = nI (p * 32 + c) := by rw [e2, ec, sk_ix32]
  have ho' : co (nI (p * 32 + c)).toNatClampNeg = 7 := by rw [e4]; exact ho
  have hk' : ca (nI (p * 32 + c)).toNatClampNeg = ca (p * 32 + c) := by rw [e4]
  unfold wpX_execute
  refine ⟨e1, nm_r e5 ⟨e3, nm_r ho' ⟨e3, nm_r hk' (br_f (by decide) (br_f (by decide) (br_f (by decide) (br_f (by decide) (br_f (by decide) (br_f (by decide) (br_f (by decide) (br_f (by decide) (br_f (by decide) (br_t rfl ?_))))))))))⟩⟩⟩
  unfold wX_execute_259 wpX_compute
  refine (br_f (by decide) (br_f (by decide) (br_f (by decide) (br_f (by decide) (br_f (by decide) (br_f (by decide) (br_f (by decide) (br_f (by decide) (br_t rfl ?_)))))))))
  unfold wpX_changeMask
  refine ⟨e1, nm_e (br_c (fun _ => ?_) fun _ => br_c (fun _ => ?_) fun _ => br_f k0 (br_f k1 (br_f k2 trivial)))⟩
  · simp only [e1, e2, true_implies, false_implies, not_true_eq_false, not_false_eq_true, and_true, true_and, forall_eq, implies_true]
    exact h
  · simp only [e1, e2, true_implies, false_implies, not_true_eq_false, not_false_eq_true, and_true, true_and, forall_eq, implies_true]
    exact h
theorem sx_x11 {post : SX → Prop} {p c : Nat} (hp : p < 4) (hc : c < 32) (ec : pc p = nI c) (ho : co (p * 32 + c) = 11) (hs : es ≤ 128) (h : post (nI np, nI nd, ls, et + 1, nI (sk_lgN es), co, ca, upd pc p (pc p + 1), ra, rb, sp, mk, dp, fc, fa, fb, fm, sl, st, lf, su, pg, ss, ql, qs, qr, hd, fl, sk_lgA ek es 6, sk_lgA ep es (nI p), sk_lgA ev es (ra p), sk_lgA er es 0)) : wpX_execute post (nI np, nI nd, ls, et, nI es, co, ca, pc, ra, rb, sp, mk, dp, fc, fa, fb, fm, sl, st, lf, su, pg, ss, ql, qs, qr, hd, fl, ek, ep, ev, er) (nI p) := by
  have e1 : vp_in (nI p) 4 := vp_in_nI hp (by decide)
  have e2 : (nI p).toNatClampNeg = p := nI_clamp (by omega)
  have e3 : vp_in (nI (p * 32 + c)) 128 := vp_in_nI (by omega) (by decide)
  have e4 : (nI (p * 32 + c)).toNatClampNeg = p * 32 + c := nI_clamp (by omega)
  have e5 : nI p * 32 + pc (nI p).toNatClampNeg = nI (p * 32 + c) := by rw [e2, ec, sk_ix32]
  have ho' : co (nI (p * 32 + c)).toNatClampNeg = 11 := by rw [e4]; exact ho
  have hk' : ca (nI (p * 32 + c)).toNatClampNeg = ca (p * 32 + c) := by rw [e4]
  unfold wpX_execute
  refine ⟨e1, nm_r e5 ⟨e3, nm_r ho' ⟨e3, nm_r hk' (br_f (by decide) (br_t (by decide) ?_))⟩⟩⟩
  unfold wX_execute_259 wpX_compute
  refine (br_f (by decide) (br_f (by decide) (br_f (by decide) (br_f (by decide) (br_f (by decide) (br_f (by decide) (br_f (by decide) (br_f (by decide) (br_f (by decide) (br_f (by decide) (br_f (by decide) (br_f (by decide) (br_t rfl ?_)))))))))))))
  simp only [e1, e2, true_implies, false_implies, not_true_eq_false, not_false_eq_true, and_true, true_and, forall_eq, implies_true]
  refine sx_log hs ?_
  exact h
theorem sx_x12 {post : SX → Prop} {p c : Nat} (hp : p < 4) (hc : c < 32) (ec : pc p = nI c) (ho : co (p * 32 + c) = 12) (h : post (nI np, nI nd, ls, et, nI es, co, ca, upd pc p (pc p + 1), ra, upd rb p (nI p), sp, mk, dp, fc, fa, fb, fm, sl, st, lf, su, pg, ss, ql, qs, qr, hd, fl, ek, ep, ev, er)) : wpX_execute post (nI np, nI nd, ls, et, nI es, co, ca, pc, ra, rb, sp, mk, dp, fc, fa, fb, fm, sl, st, lf, su, pg, ss, ql, qs, qr, hd, fl, ek, ep, ev, er) (nI p) := by
  have e1 : vp_in (nI p) 4 := vp_in_nI hp (by decide)
  have e2 : (nI p).toNatClampNeg = p := nI_clamp (by omega)
  have e3 : vp_in (nI (p * 32 + c)) 128 := vp_in_nI (by omega) (by decide)
  have e4 : (nI (p * 32 + c)).toNatClampNeg = p * 32 + c := nI_clamp (by omega)
  have e5 : nI p * 32 + pc (nI p).toNatClampNeg = nI (p * 32 + c) := by rw [e2, ec, sk_ix32]
  have ho' : co (nI (p * 32 + c)).toNatClampNeg = 12 := by rw [e4]; exact ho
  have hk' : ca (nI (p * 32 + c)).toNatClampNeg = ca (p * 32 + c) := by rw [e4]
  unfold wpX_execute
  refine ⟨e1, nm_r e5 ⟨e3, nm_r ho' ⟨e3, nm_r hk' (br_f (by decide) (br_t (by decide) ?_))⟩⟩⟩
  unfold wX_execute_259 wpX_compute
  refine (br_f (by decide) (br_f (by decide) (br_f (by decide) (br_f (by decide) (br_f (by decide) (br_f (by decide) (br_f (by decide) (br_f (by decide) (br_f (by decide) (br_f (by decide) (br_f (by decide) (br_f (by decide) (br_f (by decide) (br_t rfl ?_))))))))))))))
  simp only [e1, e2, true_implies, false_implies, not_true_eq_false, not_false_eq_true, and_true, true_and, forall_eq, implies_true]
  exact h
theorem sx_x13 {post : SX → Prop} {p c : Nat} (hp : p < 4) (hc : c < 32) (ec : pc p = nI c) (ho : co (p * 32 + c) = 13) {l : Nat} (hl : l ≤ 8) (el : ql p = nI l) (h : post (nI np, nI nd, ls, et, nI es, co, ca, upd pc p (pc p + 1), upd ra p (sk_orq (pg p) qs (p * 8) l), rb, sp, mk, dp, fc, fa, fb, fm, sl, st, lf, su, pg, ss, ql, qs, qr, hd, fl, ek, ep, ev, er)) : wpX_execute post (nI np, nI nd, ls, et, nI es, co, ca, pc, ra, rb, sp, mk, dp, fc, fa, fb, fm, sl, st, lf, su, pg, ss, ql, qs, qr, hd, fl, ek, ep, ev, er) (nI p) := by
  have e1 : vp_in (nI p) 4 := vp_in_nI hp (by decide)
  have e2 : (nI p).toNatClampNeg = p := nI_clamp (by omega)
  have e3 : vp_in (nI (p * 32 + c)) 128 := vp_in_nI (by omega) (by decide)
  have e4 : (nI (p * 32 + c)).toNatClampNeg = p * 32 + c := nI_clamp (by omega)
  have e5 : nI p * 32 + pc (nI p).toNatClampNeg = nI (p * 32 + c) := by rw [e2, ec, sk_ix32]
  have ho' : co (nI (p * 32 + c)).toNatClampNeg = 13 := by rw [e4]; exact ho
  have hk' : ca (nI (p * 32 + c)).toNatClampNeg = ca (p * 32 + c) := by rw [e4]
  unfold wpX_execute
  refine ⟨e1, nm_r e5 ⟨e3, nm_r ho' ⟨e3, nm_r hk' (br_f (by decide) (br_t (by decide) ?_))⟩⟩⟩
  unfold wX_execute_259 wpX_compute
  refine (br_f (by decide) (br_f (by decide) (br_f (by decide) (br_f (by decide) (br_f (by decide) (br_f (by decide) (br_f (by decide) (br_f (by decide) (br_f (by decide) (br_f (by decide) (br_f (by decide) (br_f (by decide) (br_f (by decide) (br_f (by decide) (br_t rfl ?_)))))))))))))))
  refine sx_allp hp hl el ?_
  simp only [e1, e2, true_implies, false_implies, not_true_eq_false, not_false_eq_true, and_true, true_and, forall_eq, implies_true]
  exact h
theorem sx_x14 {post : SX → Prop} {p c : Nat} (hp : p < 4) (hc : c < 32) (ec : pc p = nI c) (ho : co (p * 32 + c) = 14) (h : post (nI np, nI nd, ls, et, nI es, co, ca, upd pc p (pc p + 1), upd ra p (rb p), upd rb p (ra p), sp, mk, dp, fc, fa, fb, fm, sl, st, lf, su, pg, ss, ql, qs, qr, hd, fl, ek, ep, ev, er)) : wpX_execute post (nI np, nI nd, ls, et, nI es, co, ca, pc, ra, rb, sp, mk, dp, fc, fa, fb, fm, sl, st, lf, su, pg, ss, ql, qs, qr, hd, fl, ek, ep, ev, er) (nI p) := by
  have e1 : vp_in (nI p) 4 := vp_in_nI hp (by decide)
  have e2 : (nI p).toNatClampNeg = p := nI_clamp (by omega)
  have e3 : vp_in (nI (p * 32 + c)) 128 := vp_in_nI (by omega) (by decide)
  have e4 : (nI (p * 32 + c)).toNatClampNeg = p * 32 + c := nI_clamp (by omega)
  have e5 : nI p * 32 + pc (nI p).toNatClampNeg = nI (p * 32 + c) := by rw [e2, ec, sk_ix32]
  have ho' : co (nI (p * 32 + c)).toNatClampNeg = 14 := by rw [e4]; exact ho
  have hk' : ca (nI (p * 32 + c)).toNatClampNeg = ca (p * 32 + c) := by rw [e4]
  unfold wpX_execute
  refine ⟨e1, nm_r e5 ⟨e3, nm_r ho' ⟨e3, nm_r hk' (br_f (by decide) (br_t (by decide) ?_))⟩⟩⟩
  unfold wX_execute_259 wpX_compute
  refine (br_f (by decide) (br_f (by decide) (br_f (by decide) (br_f (by decide) (br_f (by decide) (br_f (by decide) (br_f (by decide) (br_f (by decide) (br_f (by decide) (br_f (by decide) (br_f (by decide) (br_f (by decide) (br_f (by decide) (br_f (by decide) (br_f (by decide) (br_t rfl ?_))))))))))))))))
  simp only [e1, e2, true_implies, false_implies, not_true_eq_false, not_false_eq_true, and_true, true_and, forall_eq, implies_true]
  exact h
theorem sx_xN {post : SX → Prop} {p c : Nat} (hp : p < 4) (hc : c < 32) (ec : pc p = nI c) (n0 : ¬ co (p * 32 + c) = 0) (n1 : ¬ co (p * 32 + c) = 1) (n2 : ¬ co (p * 32 + c) = 2) (n3 : ¬ co (p * 32 + c) = 3) (n4 : ¬ co (p * 32 + c) = 4) (n5 : ¬ co (p * 32 + c) = 5) (n6 : ¬ co (p * 32 + c) = 6) (n7 : ¬ co (p * 32 + c) = 7) (n8 : ¬ co (p * 32 + c) = 8) (n9 : ¬ co (p * 32 + c) = 9) (n10 : ¬ co (p * 32 + c) = 10) (n11 : ¬ co (p * 32 + c) = 11) (n12 : ¬ co (p * 32 + c) = 12) (n13 : ¬ co (p * 32 + c) = 13) (n14 : ¬ co (p * 32 + c) = 14) (h : post (nI np, nI nd, ls, et, nI es, co, ca, upd pc p (pc p + 1), ra, rb, sp, mk, dp, fc, fa, fb, fm, sl, st, lf, su, pg, ss, ql, qs, qr, hd, fl, ek, ep, ev, er)) : wpX_execute post (nI np, nI nd, ls, et, nI es, co, ca, pc, ra, rb, sp, mk, dp, fc, fa, fb, fm, sl, st, lf, su, pg, ss, ql, qs, qr, hd, fl, ek, ep, ev, er) (nI p) := by
  have e1 : vp_in (nI p) 4 := vp_in_nI hp (by decide)
  have e2 : (nI p).toNatClampNeg = p := nI_clamp (by omega)
  have e3 : vp_in (nI (p * 32 + c)) 128 := vp_in_nI (by omega) (by decide)
  have e4 : (nI (p * 32 + c)).toNatClampNeg = p * 32 + c := nI_clamp (by omega)
  have e5 : nI p * 32 + pc (nI p).toNatClampNeg = nI (p * 32 + c) := by rw [e2, ec, sk_ix32]
  have ho' : co (nI (p * 32 + c)).toNatClampNeg = co (p * 32 + c) := by rw [e4]
  have hk' : ca (nI (p * 32 + c)).toNatClampNeg = ca (p * 32 + c) := by rw [e4]
  unfold wpX_execute
  refine ⟨e1, nm_r e5 ⟨e3, nm_r ho' ⟨e3, nm_r hk' ?_⟩⟩⟩
  · have H : wX_execute_259 post (nI p) (co (p * 32 + c)) (ca (p * 32 + c)) (nI np) (nI nd) ls et (nI es) co ca pc ra rb sp mk dp fc fa fb fm sl st lf su pg ss ql qs qr hd fl ek ep ev er := by
      have h' : vp_in (nI p) 4 ∧ (vp_in (nI p) 4 ∧ ∀ a_pc_44, a_pc_44 = upd pc (nI p).toNatClampNeg (pc (nI p).toNatClampNeg + 1) → post (nI np, nI nd, ls, et, nI es, co, ca, a_pc_44, ra, rb, sp, mk, dp, fc, fa, fb, fm, sl, st, lf, su, pg, ss, ql, qs, qr, hd, fl, ek, ep, ev, er)) := by
        simp only [e1, e2, true_implies, false_implies, not_true_eq_false, not_false_eq_true, and_true, true_and, forall_eq, implies_true]
        exact h
      unfold wX_execute_259 wpX_compute
      exact br_c (fun _ => h') fun _ => br_c (fun _ => h') fun _ => (br_f n1 (br_f n2 (br_f n3 (br_f n4 (br_f n5 (br_f n6 (br_f n7 (br_f n8 (br_f n9 (br_f n10 (br_f n11 (br_f n12 (br_f n13 (br_f n14 trivial))))))))))))))
    exact br_c (fun _ => H) fun _ => br_c (fun _ => H) fun _ => (br_f n0 (br_f n1 (br_f n2 (br_f n3 (br_f n4 (br_f n5 (br_f n6 (br_f n7 (br_f n8 (br_f n9 (br_f n10 trivial)))))))))))
theorem sy_795 {post : Int32 → SY → Prop} {p : Nat} (hp : p < 4) (h : post 1 (nI np, nI nd, ls, et, nI es, co, ca, upd pc p (pc p + 1), ra, rb, sp, mk, dp, sl, lf, su, ql, st, pn, ss, qs, qr, hd, fl, fc, fa, fb, fm, ek, ep, ev, er)) : wY_step_795 post (nI p) (nI np) (nI nd) ls et (nI es) co ca pc ra rb sp mk dp sl lf su ql st pn ss qs qr hd fl fc fa fb fm ek ep ev er := by
  have e1 : vp_in (nI p) 4 := vp_in_nI hp (by decide)
  have e2 : (nI p).toNatClampNeg = p := nI_clamp (by omega)
  unfold wY_step_795
  exact ⟨e1, e1, nm_r (by rw [e2]) h⟩
theorem sy_s0 {post : Int32 → SY → Prop} {p c : Nat} (hp : p < 4) (hc : c < 32) (ec : pc p = nI c) (hl : lf p = 0) (ht : st p = 0) (hsl : sl p ≤ 0) (hd0 : ∀ post : Int32 → SY → Prop, post 0 (nI np, nI nd, ls, et, nI es, co, ca, pc, ra, rb, sp, mk, dp, sl, lf, su, ql, st, pn, ss, qs, qr, hd, fl, fc, fa, fb, fm, ek, ep, ev, er) → wpY_deliver post (nI np, nI nd, ls, et, nI es, co, ca, pc, ra, rb, sp, mk, dp, sl, lf, su, ql, st, pn, ss, qs, qr, hd, fl, fc, fa, fb, fm, ek, ep, ev, er) (nI p)) (hs : es ≤ 128) (ho : co (p * 32 + c) = 0) (h : post 1 (nI np, nI nd, ls, et + 1, nI (sk_lgN es), co, ca, pc, ra, rb, sp, mk, dp, upd sl p 0, upd lf p 3, upd su p (ra p), upd ql p 0, upd st p 0, sk_clr pn (p * 16) 16, sk_clr ss (p * 16) 16, qs, qr, hd, fl, fc, fa, fb, fm, sk_lgA ek es 7, sk_lgA ep es (nI p), sk_lgA ev es (ra p), sk_lgA er es 0)) : wpY_step post (nI np, nI nd, ls, et, nI es, co, ca, pc, ra, rb, sp, mk, dp, sl, lf, su, ql, st, pn, ss, qs, qr, hd, fl, fc, fa, fb, fm, ek, ep, ev, er) (nI p) := by
  have e1 : vp_in (nI p) 4 := vp_in_nI hp (by decide)
  have e2 : (nI p).toNatClampNeg = p := nI_clamp (by omega)
  have e3 : vp_in (nI (p * 32 + c)) 128 := vp_in_nI (by omega) (by decide)
  have e4 : (nI (p * 32 + c)).toNatClampNeg = p * 32 + c := nI_clamp (by omega)
  have e5 : nI p * 32 + pc (nI p).toNatClampNeg = nI (p * 32 + c) := by rw [e2, ec, sk_ix32]
  have q0 : vp_in (nI p * 32 + pc (nI p).toNatClampNeg) 128 := by rw [e5]; exact e3
  have qo : co (nI p * 32 + pc (nI p).toNatClampNeg).toNatClampNeg = co (p * 32 + c) := by rw [e5, e4]
  have qa : ca (nI p * 32 + pc (nI p).toNatClampNeg).toNatClampNeg = ca (p * 32 + c) := by rw [e5, e4]
  unfold wpY_step
  refine ⟨e1, br_t (by rw [e2]; exact hl) ⟨e1, br_t (by rw [e2]; exact ht) (hd0 _ (br_t rfl ⟨e1, br_t (by rw [e2]; exact hsl) ⟨e1, br_f (by rw [e2, ec]; exact nI_pos (by omega)) ⟨e1, br_t (by rw [e2, ec]; exact nI_le (b := 31) (by omega) (by decide)) ⟨e1, q0, nm_r qo ⟨e1, q0, nm_r qa ?_⟩⟩⟩⟩⟩))⟩⟩
  refine br_t ho ⟨e1, ?_⟩
  rw [e2]
  refine sy_die hp ?_
  refine ⟨e1, ?_⟩
  refine sy_log hs ?_
  exact h
theorem sy_s4 {post : Int32 → SY → Prop} {p c : Nat} (hp : p < 4) (hc : c < 32) (ec : pc p = nI c) (hl : lf p = 0) (ht : st p = 0) (hsl : sl p ≤ 0) (hd0 : ∀ post : Int32 → SY → Prop, post 0 (nI np, nI nd, ls, et, nI es, co, ca, pc, ra, rb, sp, mk, dp, sl, lf, su, ql, st, pn, ss, qs, qr, hd, fl, fc, fa, fb, fm, ek, ep, ev, er) → wpY_deliver post (nI np, nI nd, ls, et, nI es, co, ca, pc, ra, rb, sp, mk, dp, sl, lf, su, ql, st, pn, ss, qs, qr, hd, fl, fc, fa, fb, fm, ek, ep, ev, er) (nI p)) (ho : co (p * 32 + c) = 4) (h : post 1 (nI np, nI nd, ls, et, nI es, co, ca, upd pc p (ca (p * 32 + c)), ra, rb, sp, mk, dp, sl, lf, su, ql, st, pn, ss, qs, qr, hd, fl, fc, fa, fb, fm, ek, ep, ev, er)) : wpY_step post (nI np, nI nd, ls, et, nI es, co, ca, pc, ra, rb, sp, mk, dp, sl, lf, su, ql, st, pn, ss, qs, qr, hd, fl, fc, fa, fb, fm, ek, ep, ev, er) (nI p) := by
  have e1 : vp_in (nI p) 4 := vp_in_nI hp (by decide)
  have e2 : (nI p).toNatClampNeg = p := nI_clamp (by omega)
  have e3 : vp_in (nI (p * 32 + c)) 128 := vp_in_nI (by omega) (by decide)
  have e4 : (nI (p * 32 + c)).toNatClampNeg = p * 32 + c := nI_clamp (by omega)
  have e5 : nI p * 32 + pc (nI p).toNatClampNeg = nI (p * 32 + c) := by rw [e2, ec, sk_ix32]
  have q0 : vp_in (nI p * 32 + pc (nI p).toNatClampNeg) 128 := by rw [e5]; exact e3
  have qo : co (nI p * 32 + pc (nI p).toNatClampNeg).toNatClampNeg = co (p * 32 + c) := by rw [e5, e4]
  have qa : ca (nI p * 32 + pc (nI p).toNatClampNeg).toNatClampNeg = ca (p * 32 + c) := by rw [e5, e4]
  unfold wpY_step
  refine ⟨e1, br_t (by rw [e2]; exact hl) ⟨e1, br_t (by rw [e2]; exact ht) (hd0 _ (br_t rfl ⟨e1, br_t (by rw [e2]; exact hsl) ⟨e1, br_f (by rw [e2, ec]; exact nI_pos (by omega)) ⟨e1, br_t (by rw [e2, ec]; exact nI_le (b := 31) (by omega) (by decide)) ⟨e1, q0, nm_r qo ⟨e1, q0, nm_r qa ?_⟩⟩⟩⟩⟩))⟩⟩
  refine br_f (by rw [ho]; decide) (br_t ho ⟨e1, nm_r (by rw [e2]) ?_⟩)
  exact h
theorem sy_s5 {post : Int32 → SY → Prop} {p c : Nat} (hp : p < 4) (hc : c < 32) (ec : pc p = nI c) (hl : lf p = 0) (ht : st p = 0) (hsl : sl p ≤ 0) (hd0 : ∀ post : Int32 → SY → Prop, post 0 (nI np, nI nd, ls, et, nI es, co, ca, pc, ra, rb, sp, mk, dp, sl, lf, su, ql, st, pn, ss, qs, qr, hd, fl, fc, fa, fb, fm, ek, ep, ev, er) → wpY_deliver post (nI np, nI nd, ls, et, nI es, co, ca, pc, ra, rb, sp, mk, dp, sl, lf, su, ql, st, pn, ss, qs, qr, hd, fl, fc, fa, fb, fm, ek, ep, ev, er) (nI p)) (ho : co (p * 32 + c) = 5) (hz : ra p = 0) (h : post 1 (nI np, nI nd, ls, et, nI es, co, ca, upd pc p (pc p + 1), ra, rb, sp, mk, dp, sl, lf, su, ql, st, pn, ss, qs, qr, hd, fl, fc, fa, fb, fm, ek, ep, ev, er)) : wpY_step post (nI np, nI nd, ls, et, nI es, co, ca, pc, ra, rb, sp, mk, dp, sl, lf, su, ql, st, pn, ss, qs, qr, hd, fl, fc, fa, fb, fm, ek, ep, ev, er) (nI p) := by
  have e1 : vp_in (nI p) 4 := vp_in_nI hp (by decide)
  have e2 : (nI p).toNatClampNeg = p := nI_clamp (by omega)
  have e3 : vp_in (nI (p * 32 + c)) 128 := vp_in_nI (by omega) (by decide)
  have e4 : (nI (p * 32 + c)).toNatClampNeg = p * 32 + c := nI_clamp (by omega)
  have e5 : nI p * 32 + pc (nI p).toNatClampNeg = nI (p * 32 + c) := by rw [e2, ec, sk_ix32]
  have q0 : vp_in (nI p * 32 + pc (nI p).toNatClampNeg) 128 := by rw [e5]; exact e3
  have qo : co (nI p * 32 + pc (nI p).toNatClampNeg).toNatClampNeg = co (p * 32 + c) := by rw [e5, e4]
  have qa : ca (nI p * 32 + pc (nI p).toNatClampNeg).toNatClampNeg = ca (p * 32 + c) := by rw [e5, e4]
  unfold wpY_step
  refine ⟨e1, br_t (by rw [e2]; exact hl) ⟨e1, br_t (by rw [e2]; exact ht) (hd0 _ (br_t rfl ⟨e1, br_t (by rw [e2]; exact hsl) ⟨e1, br_f (by rw [e2, ec]; exact nI_pos (by omega)) ⟨e1, br_t (by rw [e2, ec]; exact nI_le (b := 31) (by omega) (by decide)) ⟨e1, q0, nm_r qo ⟨e1, q0, nm_r qa ?_⟩⟩⟩⟩⟩))⟩⟩
  refine br_f (by rw [ho]; decide) (br_f (by rw [ho]; decide) (br_t ho ⟨e1, br_t (by rw [e2]; exact hz) ⟨e1, e1, nm_r (by rw [e2]) ?_⟩⟩))
  exact h
theorem sy_s5b {post : Int32 → SY → Prop} {p c : Nat} (hp : p < 4) (hc : c < 32) (ec : pc p = nI c) (hl : lf p = 0) (ht : st p = 0) (hsl : sl p ≤ 0) (hd0 : ∀ post : Int32 → SY → Prop, post 0 (nI np, nI nd, ls, et, nI es, co, ca, pc, ra, rb, sp, mk, dp, sl, lf, su, ql, st, pn, ss, qs, qr, hd, fl, fc, fa, fb, fm, ek, ep, ev, er) → wpY_deliver post (nI np, nI nd, ls, et, nI es, co, ca, pc, ra, rb, sp, mk, dp, sl, lf, su, ql, st, pn, ss, qs, qr, hd, fl, fc, fa, fb, fm, ek, ep, ev, er) (nI p)) (ho : co (p * 32 + c) = 5) (hz : ¬ ra p = 0) (h : post 1 (nI np, nI nd, ls, et, nI es, co, ca, upd pc p (ca (p * 32 + c)), ra, rb, sp, mk, dp, sl, lf, su, ql, st, pn, ss, qs, qr, hd, fl, fc, fa, fb, fm, ek, ep, ev, er)) : wpY_step post (nI np, nI nd, ls, et, nI es, co, ca, pc, ra, rb, sp, mk, dp, sl, lf, su, ql, st, pn, ss, qs, qr, hd, fl, fc, fa, fb, fm, ek, ep, ev, er) (nI p) := by
  have e1 : vp_in (nI p) 4 := vp_in_nI hp (by decide)
  have e2 : (nI p).toNatClampNeg = p := nI_clamp (by omega)
  have e3 : vp_in (nI (p * 32 + c)) 128 := vp_in_nI (by omega) (by decide)
  have e4 : (nI (p * 32 + c)).toNatClampNeg = p * 32 + c := nI_clamp (by omega)
  have e5 : nI p * 32 + pc (nI p).toNatClampNeg = nI (p * 32 + c) := by rw [e2, ec, sk_ix32]
  have q0 : vp_in (nI p * 32 + pc (nI p).toNatClampNeg) 128 := by rw [e5]; exact e3
  have qo : co (nI p * 32 + pc (nI p).toNatClampNeg).toNatClampNeg = co (p * 32 + c) := by rw [e5, e4]
  have qa : ca (nI p * 32 + pc (nI p).toNatClampNeg).toNatClampNeg = ca (p * 32 + c) := by rw [e5, e4]
  unfold wpY_step
  refine ⟨e1, br_t (by rw [e2]; exact hl) ⟨e1, br_t (by rw [e2]; exact ht) (hd0 _ (br_t rfl ⟨e1, br_t (by rw [e2]; exact hsl) ⟨e1, br_f (by rw [e2, ec]; exact nI_pos (by omega)) ⟨e1, br_t (by rw [e2, ec]; exact nI_le (b := 31) (by omega) (by decide)) ⟨e1, q0, nm_r qo ⟨e1, q0, nm_r qa ?_⟩⟩⟩⟩⟩))⟩⟩
  refine br_f (by rw [ho]; decide) (br_f (by rw [ho]; decide) (br_t ho ⟨e1, br_f (by rw [e2]; exact hz) ⟨e1, nm_r (by rw [e2]) ?_⟩⟩))
  exact h
theorem sy_s9 {post : Int32 → SY → Prop} {p c : Nat} (hp : p < 4) (hc : c < 32) (ec : pc p = nI c) (hl : lf p = 0) (ht : st p = 0) (hsl : sl p ≤ 0) (hd0 : ∀ post : Int32 → SY → Prop, post 0 (nI np, nI nd, ls, et, nI es, co, ca, pc, ra, rb, sp, mk, dp, sl, lf, su, ql, st, pn, ss, qs, qr, hd, fl, fc, fa, fb, fm, ek, ep, ev, er) → wpY_deliver post (nI np, nI nd, ls, et, nI es, co, ca, pc, ra, rb, sp, mk, dp, sl, lf, su, ql, st, pn, ss, qs, qr, hd, fl, fc, fa, fb, fm, ek, ep, ev, er) (nI p)) (ho : co (p * 32 + c) = 9) (hz : ¬ (ca (p * 32 + c)) ≤ 0) (h : post 1 (nI np, nI nd, ls, et, nI es, co, ca, pc, ra, rb, sp, mk, dp, upd sl p (ca (p * 32 + c)), lf, su, ql, st, pn, ss, qs, qr, hd, fl, fc, fa, fb, fm, ek, ep, ev, er)) : wpY_step post (nI np, nI nd, ls, et, nI es, co, ca, pc, ra, rb, sp, mk, dp, sl, lf, su, ql, st, pn, ss, qs, qr, hd, fl, fc, fa, fb, fm, ek, ep, ev, er) (nI p) := by
  have e1 : vp_in (nI p) 4 := vp_in_nI hp (by decide)
  have e2 : (nI p).toNatClampNeg = p := nI_clamp (by omega)
  have e3 : vp_in (nI (p * 32 + c)) 128 := vp_in_nI (by omega) (by decide)
  have e4 : (nI (p * 32 + c)).toNatClampNeg = p * 32 + c := nI_clamp (by omega)
  have e5 : nI p * 32 + pc (nI p).toNatClampNeg = nI (p * 32 + c) := by rw [e2, ec, sk_ix32]
  have q0 : vp_in (nI p * 32 + pc (nI p).toNatClampNeg) 128 := by rw [e5]; exact e3
  have qo : co (nI p * 32 + pc (nI p).toNatClampNeg).toNatClampNeg = co (p * 32 + c) := by rw [e5, e4]
  have qa : ca (nI p * 32 + pc (nI p).toNatClampNeg).toNatClampNeg = ca (p * 32 + c) := by rw [e5, e4]
  unfold wpY_step
  refine ⟨e1, br_t (by rw [e2]; exact hl) ⟨e1, br_t (by rw [e2]; exact ht) (hd0 _ (br_t rfl ⟨e1, br_t (by rw [e2]; exact hsl) ⟨e1, br_f (by rw [e2, ec]; exact nI_pos (by omega)) ⟨e1, br_t (by rw [e2, ec]; exact nI_le (b := 31) (by omega) (by decide)) ⟨e1, q0, nm_r qo ⟨e1, q0, nm_r qa ?_⟩⟩⟩⟩⟩))⟩⟩
  refine br_f (by rw [ho]; decide) (br_f (by rw [ho]; decide) (br_f (by rw [ho]; decide) (br_t ho (br_f hz ⟨e1, nm_r (by rw [e2]) ?_⟩))))
  exact h
theorem sy_sN {post : Int32 → SY → Prop} {p c : Nat} (hp : p < 4) (hc : c < 32) (ec : pc p = nI c) (hl : lf p = 0) (ht : st p = 0) (hsl : sl p ≤ 0) (hd0 : ∀ post : Int32 → SY → Prop, post 0 (nI np, nI nd, ls, et, nI es, co, ca, pc, ra, rb, sp, mk, dp, sl, lf, su, ql, st, pn, ss, qs, qr, hd, fl, fc, fa, fb, fm, ek, ep, ev, er) → wpY_deliver post (nI np, nI nd, ls, et, nI es, co, ca, pc, ra, rb, sp, mk, dp, sl, lf, su, ql, st, pn, ss, qs, qr, hd, fl, fc, fa, fb, fm, ek, ep, ev, er) (nI p)) (n0 : ¬ co (p * 32 + c) = 0) (n4 : ¬ co (p * 32 + c) = 4) (n5 : ¬ co (p * 32 + c) = 5) (n9 : ¬ co (p * 32 + c) = 9 ∨ (ca (p * 32 + c)) ≤ 0) (h : wY_step_251 post (nI p) (co (p * 32 + c)) (ca (p * 32 + c)) (nI np) (nI nd) ls et (nI es) co ca pc ra rb sp mk dp sl lf su ql st pn ss qs qr hd fl fc fa fb fm ek ep ev er) : wpY_step post (nI np, nI nd, ls, et, nI es, co, ca, pc, ra, rb, sp, mk, dp, sl, lf, su, ql, st, pn, ss, qs, qr, hd, fl, fc, fa, fb, fm, ek, ep, ev, er) (nI p) := by
  have e1 : vp_in (nI p) 4 := vp_in_nI hp (by decide)
  have e2 : (nI p).toNatClampNeg = p := nI_clamp (by omega)
  have e3 : vp_in (nI (p * 32 + c)) 128 := vp_in_nI (by omega) (by decide)
  have e4 : (nI (p * 32 + c)).toNatClampNeg = p * 32 + c := nI_clamp (by omega)
  have e5 : nI p * 32 + pc (nI p).toNatClampNeg = nI (p * 32 + c) := by rw [e2, ec, sk_ix32]
  have q0 : vp_in (nI p * 32 + pc (nI p).toNatClampNeg) 128 := by rw [e5]; exact e3
  have qo : co (nI p * 32 + pc (nI p).toNatClampNeg).toNatClampNeg = co (p * 32 + c) := by rw [e5, e4]
  have qa : ca (nI p * 32 + pc (nI p).toNatClampNeg).toNatClampNeg = ca (p * 32 + c) := by rw [e5, e4]
  unfold wpY_step
  refine ⟨e1, br_t (by rw [e2]; exact hl) ⟨e1, br_t (by rw [e2]; exact ht) (hd0 _ (br_t rfl ⟨e1, br_t (by rw [e2]; exact hsl) ⟨e1, br_f (by rw [e2, ec]; exact nI_pos (by omega)) ⟨e1, br_t (by rw [e2, ec]; exact nI_le (b := 31) (by omega) (by decide)) ⟨e1, q0, nm_r qo ⟨e1, q0, nm_r qa ?_⟩⟩⟩⟩⟩))⟩⟩
  exact br_f n0 (br_f n4 (br_f n5 (br_c (fun z => br_t (n9.resolve_left (fun y => y z)) h) fun _ => h)))
theorem sy_t1 {post : Int32 → SY → Prop} {p : Nat} {k : Int32} (hp : p < 4) (h : post 1 (nI np, nI nd, ls, et, nI es, co, ca, upd pc p (pc p + 1), upd ra p k, rb, sp, mk, dp, sl, lf, su, ql, st, pn, ss, qs, qr, hd, fl, fc, fa, fb, fm, ek, ep, ev, er)) : wY_step_251 post (nI p) 1 k (nI np) (nI nd) ls et (nI es) co ca pc ra rb sp mk dp sl lf su ql st pn ss qs qr hd fl fc fa fb fm ek ep ev er := by
  have e1 : vp_in (nI p) 4 := vp_in_nI hp (by decide)
  have e2 : (nI p).toNatClampNeg = p := nI_clamp (by omega)
  unfold wY_step_251
  refine br_f (by decide) ?_
  unfold wY_step_356
  refine (br_f (by decide) (br_t rfl ?_))
  refine ⟨e1, nm_r (by rw [e2]) ?_⟩
  exact sy_795 hp h
theorem sy_t2 {post : Int32 → SY → Prop} {p : Nat} {k : Int32} (hp : p < 4) (h : post 1 (nI np, nI nd, ls, et, nI es, co, ca, upd pc p (pc p + 1), ra, upd rb p k, sp, mk, dp, sl, lf, su, ql, st, pn, ss, qs, qr, hd, fl, fc, fa, fb, fm, ek, ep, ev, er)) : wY_step_251 post (nI p) 2 k (nI np) (nI nd) ls et (nI es) co ca pc ra rb sp mk dp sl lf su ql st pn ss qs qr hd fl fc fa fb fm ek ep ev er := by
  have e1 : vp_in (nI p) 4 := vp_in_nI hp (by decide)
  have e2 : (nI p).toNatClampNeg = p := nI_clamp (by omega)
  unfold wY_step_251
  refine br_f (by decide) ?_
  unfold wY_step_356
  refine (br_f (by decide) (br_f (by decide) (br_t rfl ?_)))
  refine ⟨e1, nm_r (by rw [e2]) ?_⟩
  exact sy_795 hp h
theorem sy_t3 {post : Int32 → SY → Prop} {p : Nat} {k : Int32} (hp : p < 4) (h : post 1 (nI np, nI nd, ls, et, nI es, co, ca, upd pc p (pc p + 1), upd ra p (ra p + k), rb, sp, mk, dp, sl, lf, su, ql, st, pn, ss, qs, qr, hd, fl, fc, fa, fb, fm, ek, ep, ev, er)) : wY_step_251 post (nI p) 3 k (nI np) (nI nd) ls et (nI es) co ca pc ra rb sp mk dp sl lf su ql st pn ss qs qr hd fl fc fa fb fm ek ep ev er := by
  have e1 : vp_in (nI p) 4 := vp_in_nI hp (by decide)
  have e2 : (nI p).toNatClampNeg = p := nI_clamp (by omega)
  unfold wY_step_251
  refine br_f (by decide) ?_
  unfold wY_step_356
  refine (br_f (by decide) (br_f (by decide) (br_f (by decide) (br_t rfl ?_))))
  refine ⟨e1, e1, nm_r (by rw [e2]) ?_⟩
  exact sy_795 hp h
theorem sy_t7a {post : Int32 → SY → Prop} {p : Nat} {k : Int32} (hp : p < 4) (hk : k = 0) (h : post 1 (nI np, nI nd, ls, et, nI es, co, ca, upd pc p (pc p + 1), upd ra p (mk p), rb, sp, upd mk p ((mk p ||| ra p) &&& (-33282)), dp, sl, lf, su, ql, st, pn, ss, qs, qr, hd, fl, fc, fa, fb, fm, ek, ep, ev, er)) : wY_step_251 post (nI p) 7 k (nI np) (nI nd) ls et (nI es) co ca pc ra rb sp mk dp sl lf su ql st pn ss qs qr hd fl fc fa fb fm ek ep ev er := by
  have e1 : vp_in (nI p) 4 := vp_in_nI hp (by decide)
  have e2 : (nI p).toNatClampNeg = p := nI_clamp (by omega)
  unfold wY_step_251
  refine br_f (by decide) ?_
  unfold wY_step_356
  refine (br_f (by decide) (br_f (by decide) (br_f (by decide) (br_f (by decide) (br_t rfl ?_)))))
  refine ⟨e1, nm_e (br_t hk ?_)⟩
  simp only [wpY_clean, wY_step_574, e1, e2, true_implies, false_implies, not_true_eq_false, not_false_eq_true, and_true, true_and, forall_eq, implies_true]
  exact sy_795 hp h
theorem sy_t7b {post : Int32 → SY → Prop} {p : Nat} {k : Int32} (hp : p < 4) (hk : k = 1) (h : post 1 (nI np, nI nd, ls, et, nI es, co, ca, upd pc p (pc p + 1), upd ra p (mk p), rb, sp, upd mk p ((mk p &&& (ra p ^^^ (-1))) &&& (-33282)), dp, sl, lf, su, ql, st, pn, ss, qs, qr, hd, fl, fc, fa, fb, fm, ek, ep, ev, er)) : wY_step_251 post (nI p) 7 k (nI np) (nI nd) ls et (nI es) co ca pc ra rb sp mk dp sl lf su ql st pn ss qs qr hd fl fc fa fb fm ek ep ev er := by
  have e1 : vp_in (nI p) 4 := vp_in_nI hp (by decide)
  have e2 : (nI p).toNatClampNeg = p := nI_clamp (by omega)
  unfold wY_step_251
  refine br_f (by decide) ?_
  unfold wY_step_356
  refine (br_f (by decide) (br_f (by decide) (br_f (by decide) (br_f (by decide) (br_t rfl ?_)))))
  refine ⟨e1, nm_e (br_f (by rw [hk]; decide) (br_t hk ?_))⟩
  simp only [wpY_clean, wY_step_574, e1, e2, true_implies, false_implies, not_true_eq_false, not_false_eq_true, and_true, true_and, forall_eq, implies_true]
  exact sy_795 hp h
theorem sy_t7c {post : Int32 → SY → Prop} {p : Nat} {k : Int32} (hp : p < 4) (hk : k = 2) (h : post 1 (nI np, nI nd, ls, et, nI es, co, ca, upd pc p (pc p + 1), upd ra p (mk p), rb, sp, upd mk p ((ra p) &&& (-33282)), dp, sl, lf, su, ql, st, pn, ss, qs, qr, hd, fl, fc, fa, fb, fm, ek, ep, ev, er)) : wY_step_251 post (nI p) 7 k (nI np) (nI nd) ls et (nI es) co ca pc ra rb sp mk dp sl lf su ql st pn ss qs qr hd fl fc fa fb fm ek ep ev er := by
  have e1 : vp_in (nI p) 4 := vp_in_nI hp (by decide)
  have e2 : (nI p).toNatClampNeg = p := nI_clamp (by omega)
  unfold wY_step_251
  refine br_f (by decide) ?_
  unfold wY_step_356
  refine (br_f (by decide) (br_f (by decide) (br_f (by decide) (br_f (by decide) (br_t rfl ?_)))))
  refine ⟨e1, nm_e (br_f (by rw [hk]; decide) (br_f (by rw [hk]; decide) (br_t hk ?_)))⟩
  simp only [wpY_clean, wY_step_574, e1, e2, true_implies, false_implies, not_true_eq_false, not_false_eq_true, and_true, true_and, forall_eq, implies_true]
  exact sy_795 hp h
theorem sy_t7d {post : Int32 → SY → Prop} {p : Nat} {k : Int32} (hp : p < 4) (k0 : ¬ k = 0) (k1 : ¬ k = 1) (k2 : ¬ k = 2) (h : post 1 (nI np, nI nd, ls, et, nI es, co, ca, upd pc p (pc p + 1), upd ra p (-22), rb, sp, mk, dp, sl, lf, su, ql, st, pn, ss, qs, qr, hd, fl, fc, fa, fb, fm, ek, ep, ev, er)) : wY_step_251 post (nI p) 7 k (nI np) (nI nd) ls et (nI es) co ca pc ra rb sp mk dp sl lf su ql st pn ss qs qr hd fl fc fa fb fm ek ep ev er := by
  have e1 : vp_in (nI p) 4 := vp_in_nI hp (by decide)
  have e2 : (nI p).toNatClampNeg = p := nI_clamp (by omega)
  unfold wY_step_251
  refine br_f (by decide) ?_
  unfold wY_step_356
  refine (br_f (by decide) (br_f (by decide) (br_f (by decide) (br_f (by decide) (br_t rfl ?_)))))
  refine ⟨e1, nm_e (br_f k0 (br_f k1 (br_f k2 ⟨e1, nm_r (by rw [e2]) ?_⟩)))⟩
  unfold wY_step_574
  exact sy_795 hp h
theorem sy_t8 {post : Int32 → SY → Prop} {p g : Nat} (hp : p < 4) (h1 : 1 ≤ g) (hg : g < 32) (h9 : g ≠ 9) (h15 : g ≠ 15) (hx : ra p = -2 ∨ ra p = -1 ∨ ∃ j, j < 32 ∧ ra p = nI j) (h : post 1 (nI np, nI nd, ls, et, nI es, co, ca, upd pc p (pc p + 1), upd ra p (hd (p * 32 + g)), rb, sp, mk, dp, sl, lf, su, ql, st, pn, ss, qs, qr, upd hd (p * 32 + g) (ra p), upd fl (p * 32 + g) (rb p &&& 7), fc, fa, fb, fm, ek, ep, ev, er)) : wY_step_251 post (nI p) 8 (nI g) (nI np) (nI nd) ls et (nI es) co ca pc ra rb sp mk dp sl lf su ql st pn ss qs qr hd fl fc fa fb fm ek ep ev er := by
  have e1 : vp_in (nI p) 4 := vp_in_nI hp (by decide)
  have e2 : (nI p).toNatClampNeg = p := nI_clamp (by omega)
  have e3 : vp_in (nI (p * 32 + g)) 128 := vp_in_nI (by omega) (by decide)
  have e4 : (nI (p * 32 + g)).toNatClampNeg = p * 32 + g := nI_clamp (by omega)
  unfold wY_step_251
  refine br_f (by decide) ?_
  unfold wY_step_356
  refine (br_f (by decide) (br_f (by decide) (br_f (by decide) (br_f (by decide) (br_f (by decide) (br_t rfl ?_))))))
  refine ⟨e1, ?_⟩
  rw [e2]
  refine sy_ok1 h1 hg h9 h15 hx ?_
  refine br_f (by decide) ?_
  simp only [sk_ix32, e1, e2, e3, e4, true_implies, false_implies, not_true_eq_false, not_false_eq_true, and_true, true_and, forall_eq, implies_true]
  exact sy_795 hp h
theorem sy_t8b {post : Int32 → SY → Prop} {p : Nat} {k : Int32} (hp : p < 4) (hk : ∀ q : Int32 → Prop, q 0 → wpY_actOk q (nI np, nI nd, ls, et, nI es, co, ca, pc, ra, rb, sp, mk, dp, sl, lf, su, ql, st, pn, ss, qs, qr, hd, fl, fc, fa, fb, fm, ek, ep, ev, er) k (ra p)) (h : post 1 (nI np, nI nd, ls, et, nI es, co, ca, upd pc p (pc p + 1), upd ra p (-22), rb, sp, mk, dp, sl, lf, su, ql, st, pn, ss, qs, qr, hd, fl, fc, fa, fb, fm, ek, ep, ev, er)) : wY_step_251 post (nI p) 8 k (nI np) (nI nd) ls et (nI es) co ca pc ra rb sp mk dp sl lf su ql st pn ss qs qr hd fl fc fa fb fm ek ep ev er := by
  have e1 : vp_in (nI p) 4 := vp_in_nI hp (by decide)
  have e2 : (nI p).toNatClampNeg = p := nI_clamp (by omega)
  unfold wY_step_251
  refine br_f (by decide) ?_
  unfold wY_step_356
  refine (br_f (by decide) (br_f (by decide) (br_f (by decide) (br_f (by decide) (br_f (by decide) (br_t rfl ?_))))))
  refine ⟨e1, ?_⟩
  rw [e2]
  refine hk _ ?_
  refine br_t rfl ⟨e1, nm_e ?_⟩
  exact sy_795 hp h
theorem sy_t9 {post : Int32 → SY → Prop} {p : Nat} {k : Int32} (hp : p < 4) (h : post 1 (nI np, nI nd, ls, et, nI es, co, ca, upd pc p (pc p + 1), upd ra p 0, rb, sp, mk, dp, sl, lf, su, ql, st, pn, ss, qs, qr, hd, fl, fc, fa, fb, fm, ek, ep, ev, er)) : wY_step_251 post (nI p) 9 k (nI np) (nI nd) ls et (nI es) co ca pc ra rb sp mk dp sl lf su ql st pn ss qs qr hd fl fc fa fb fm ek ep ev er := by
  have e1 : vp_in (nI p) 4 := vp_in_nI hp (by decide)
  have e2 : (nI p).toNatClampNeg = p := nI_clamp (by omega)
  unfold wY_step_251
  refine br_f (by decide) ?_
  unfold wY_step_356
  refine (br_f (by decide) (br_f (by decide) (br_f (by decide) (br_f (by decide) (br_f (by decide) (br_f (by decide) (br_t rfl ?_)))))))
  refine ⟨e1, nm_r (by rw [e2]) ?_⟩
  exact sy_795 hp h
theorem sy_t10 {post : Int32 → SY → Prop} {p : Nat} {k : Int32} (hp : p < 4) {d : Nat} (hd4 : d + 1 ≤ 4) (ed : dp p = nI (d + 1)) (hf : fm (p * 4 + d) &&& (-33282) = fm (p * 4 + d)) (h : post 1 (nI np, nI nd, ls, et, nI es, co, ca, upd pc p (fc (p * 4 + d)), upd ra p (fa (p * 4 + d)), upd rb p (fb (p * 4 + d)), upd sp p (sp p + 4), upd mk p (fm (p * 4 + d)), upd dp p (nI d), sl, lf, su, ql, st, pn, ss, qs, qr, hd, fl, fc, fa, fb, fm, ek, ep, ev, er)) : wY_step_251 post (nI p) 10 k (nI np) (nI nd) ls et (nI es) co ca pc ra rb sp mk dp sl lf su ql st pn ss qs qr hd fl fc fa fb fm ek ep ev er := by
  have e1 : vp_in (nI p) 4 := vp_in_nI hp (by decide)
  have e2 : (nI p).toNatClampNeg = p := nI_clamp (by omega)
  unfold wY_step_251
  have z : ¬ nI (d + 1) ≤ 0 := nI_nle (by omega) (by omega)
  have e6 : vp_in (nI (p * 4 + d)) 16 := vp_in_nI (by omega) (by decide)
  have e7 : (nI (p * 4 + d)).toNatClampNeg = p * 4 + d := nI_clamp (by omega)
  refine br_t rfl ⟨e1, br_f (by rw [e2, ed]; exact z) ?_⟩
  simp only [wpY_clean, e1, e2, ed, nI_pred, pk_us, sk_ix4, e6, e7, hf, true_implies, false_implies, not_true_eq_false, not_false_eq_true, and_true, true_and, forall_eq, implies_true]
  exact h
theorem sy_t10b {post : Int32 → SY → Prop} {p : Nat} {k : Int32} (hp : p < 4) (ed : dp p = 0) (h : post 1 (nI np, nI nd, ls, et, nI es, co, ca, upd pc p (pc p + 1), upd ra p (-22), rb, sp, mk, dp, sl, lf, su, ql, st, pn, ss, qs, qr, hd, fl, fc, fa, fb, fm, ek, ep, ev, er)) : wY_step_251 post (nI p) 10 k (nI np) (nI nd) ls et (nI es) co ca pc ra rb sp mk dp sl lf su ql st pn ss qs qr hd fl fc fa fb fm ek ep ev er := by
  have e1 : vp_in (nI p) 4 := vp_in_nI hp (by decide)
  have e2 : (nI p).toNatClampNeg = p := nI_clamp (by omega)
  unfold wY_step_251
  refine br_t rfl ⟨e1, br_t (by rw [e2, ed]; decide) ?_⟩
  unfold wY_step_356
  refine (br_f (by decide) (br_f (by decide) (br_f (by decide) (br_f (by decide) (br_f (by decide) (br_f (by decide) (br_f (by decide) (br_t rfl ?_))))))))
  refine ⟨e1, nm_r (by rw [e2]) ?_⟩
  exact sy_795 hp h
theorem sy_t11 {post : Int32 → SY → Prop} {p : Nat} {k : Int32} (hp : p < 4) (hs : es ≤ 128) (h : post 1 (nI np, nI nd, ls, et + 1, nI (sk_lgN es), co, ca, upd pc p (pc p + 1), ra, rb, sp, mk, dp, sl, lf, su, ql, st, pn, ss, qs, qr, hd, fl, fc, fa, fb, fm, sk_lgA ek es 6, sk_lgA ep es (nI p), sk_lgA ev es (ra p), sk_lgA er es 0)) : wY_step_251 post (nI p) 11 k (nI np) (nI nd) ls et (nI es) co ca pc ra rb sp mk dp sl lf su ql st pn ss qs qr hd fl fc fa fb fm ek ep ev er := by
  have e1 : vp_in (nI p) 4 := vp_in_nI hp (by decide)
  have e2 : (nI p).toNatClampNeg = p := nI_clamp (by omega)
  unfold wY_step_251
  refine br_f (by decide) ?_
  unfold wY_step_356
  refine (br_f (by decide) (br_f (by decide) (br_f (by decide) (br_f (by decide) (br_f (by decide) (br_f (by decide) (br_f (by decide) (br_f (by decide) (br_t rfl ?_)))))))))
  refine ⟨e1, ?_⟩
  rw [e2]
  refine sy_log hs ?_
  exact sy_795 hp h
theorem sy_t12 {post : Int32 → SY → Prop} {p : Nat} {k : Int32} (hp : p < 4) (h : post 1 (nI np, nI nd, ls, et, nI es, co, ca, upd pc p (pc p + 1), ra, upd rb p (nI p), sp, mk, dp, sl, lf, su, ql, st, pn, ss, qs, qr, hd, fl, fc, fa, fb, fm, ek, ep, ev, er)) : wY_step_251 post (nI p) 12 k (nI np) (nI nd) ls et (nI es) co ca pc ra rb sp mk dp sl lf su ql st pn ss qs qr hd fl fc fa fb fm ek ep ev er := by
  have e1 : vp_in (nI p) 4 := vp_in_nI hp (by decide)
  have e2 : (nI p).toNatClampNeg = p := nI_clamp (by omega)
  unfold wY_step_251
  refine br_f (by decide) ?_
  unfold wY_step_356
  refine (br_f (by decide) (br_f (by decide) (br_f (by decide) (br_f (by decide) (br_f (by decide) (br_f (by decide) (br_f (by decide) (br_f (by decide) (br_f (by decide) (br_t rfl ?_))))))))))
  refine ⟨e1, nm_r (by rw [e2]) ?_⟩
  exact sy_795 hp h
theorem sy_t13 {post : Int32 → SY → Prop} {p : Nat} {k : Int32} (hp : p < 4) {l : Nat} {w : Int32} (hl : l ≤ 8) (el : ql p = nI l) (hw : sk_PB w pn p) (h : post 1 (nI np, nI nd, ls, et, nI es, co, ca, upd pc p (pc p + 1), upd ra p (sk_orq w qs (p * 8) l), rb, sp, mk, dp, sl, lf, su, ql, st, pn, ss, qs, qr, hd, fl, fc, fa, fb, fm, ek, ep, ev, er)) : wY_step_251 post (nI p) 13 k (nI np) (nI nd) ls et (nI es) co ca pc ra rb sp mk dp sl lf su ql st pn ss qs qr hd fl fc fa fb fm ek ep ev er := by
  have e1 : vp_in (nI p) 4 := vp_in_nI hp (by decide)
  have e2 : (nI p).toNatClampNeg = p := nI_clamp (by omega)
  unfold wY_step_251
  refine br_f (by decide) ?_
  unfold wY_step_356
  refine (br_f (by decide) (br_f (by decide) (br_f (by decide) (br_f (by decide) (br_f (by decide) (br_f (by decide) (br_f (by decide) (br_f (by decide) (br_f (by decide) (br_f (by decide) (br_t rfl ?_)))))))))))
  refine sy_pb hp hl el hw ?_
  refine ⟨e1, nm_r (by rw [e2]) ?_⟩
  exact sy_795 hp h
theorem sy_t14 {post : Int32 → SY → Prop} {p : Nat} {k : Int32} (hp : p < 4) (h : post 1 (nI np, nI nd, ls, et, nI es, co, ca, upd pc p (pc p + 1), upd ra p (rb p), upd rb p (ra p), sp, mk, dp, sl, lf, su, ql, st, pn, ss, qs, qr, hd, fl, fc, fa, fb, fm, ek, ep, ev, er)) : wY_step_251 post (nI p) 14 k (nI np) (nI nd) ls et (nI es) co ca pc ra rb sp mk dp sl lf su ql st pn ss qs qr hd fl fc fa fb fm ek ep ev er := by
  have e1 : vp_in (nI p) 4 := vp_in_nI hp (by decide)
  have e2 : (nI p).toNatClampNeg = p := nI_clamp (by omega)
  unfold wY_step_251
  refine br_f (by decide) ?_
  unfold wY_step_356
  refine (br_f (by decide) (br_f (by decide) (br_f (by decide) (br_f (by decide) (br_f (by decide) (br_f (by decide) (br_f (by decide) (br_f (by decide) (br_f (by decide) (br_f (by decide) (br_f (by decide) (br_t rfl ?_))))))))))))
  simp only [e1, e2, true_implies, false_implies, not_true_eq_false, not_false_eq_true, and_true, true_and, forall_eq, implies_true]
  exact sy_795 hp h
theorem sy_tN {post : Int32 → SY → Prop} {p : Nat} {o k : Int32} (hp : p < 4) (n1 : ¬ o = 1) (n2 : ¬ o = 2) (n3 : ¬ o = 3) (n6 : ¬ o = 6) (n7 : ¬ o = 7) (n8 : ¬ o = 8) (n9 : ¬ o = 9) (n10 : ¬ o = 10) (n11 : ¬ o = 11) (n12 : ¬ o = 12) (n13 : ¬ o = 13) (n14 : ¬ o = 14) (h : post 1 (nI np, nI nd, ls, et, nI es, co, ca, upd pc p (pc p + 1), ra, rb, sp, mk, dp, sl, lf, su, ql, st, pn, ss, qs, qr, hd, fl, fc, fa, fb, fm, ek, ep, ev, er)) : wY_step_251 post (nI p) o k (nI np) (nI nd) ls et (nI es) co ca pc ra rb sp mk dp sl lf su ql st pn ss qs qr hd fl fc fa fb fm ek ep ev er := by
  unfold wY_step_251
  refine br_f n10 ?_
  unfold wY_step_356
  exact (br_f n6 (br_f n1 (br_f n2 (br_f n3 (br_f n7 (br_f n8 (br_f n9 (br_f n10 (br_f n11 (br_f n12 (br_f n13 (br_f n14 (sy_795 hp h)))))))))))))
end
end
section
section
variable {np nd es : Nat} {ls et : Int32} {co ca pc ra rb sp mk dp fc fa fb fm sl st lf su pg pn ss ql qs qr hd fl ek ep ev er : Nat → Int32}
theorem sk_exec {p c : Nat} (I : sk_Inv np nd es pg pn ss dp ql qs hd sl mk fm) (hp' : p < np) (hc : c < 32) (ec : pc p = nI c) (hl : lf p = 0) (ht : st p = 0) (hsl : sl p ≤ 0) (hd0 : ∀ post : Int32 → SY → Prop, post 0 (nI np, nI nd, ls, et, nI es, co, ca, pc, ra, rb, sp, mk, dp, sl, lf, su, ql, st, pn, ss, qs, qr, hd, fl, fc, fa, fb, fm, ek, ep, ev, er) → wpY_deliver post (nI np, nI nd, ls, et, nI es, co, ca, pc, ra, rb, sp, mk, dp, sl, lf, su, ql, st, pn, ss, qs, qr, hd, fl, fc, fa, fb, fm, ek, ep, ev, er) (nI p)) : ∃ u v, sk_Rel np u v ∧ (∀ post : SX → Prop, post u → wpX_execute post (nI np, nI nd, ls, et, nI es, co, ca, pc, ra, rb, sp, mk, dp, fc, fa, fb, fm, sl, st, lf, su, pg, ss, ql, qs, qr, hd, fl, ek, ep, ev, er) (nI p)) ∧ (∀ post : Int32 → SY → Prop, post 1 v → wpY_step post (nI np, nI nd, ls, et, nI es, co, ca, pc, ra, rb, sp, mk, dp, sl, lf, su, ql, st, pn, ss, qs, qr, hd, fl, fc, fa, fb, fm, ek, ep, ev, er) (nI p)) := by
  have hs := sk_I_es I
  have hn := sk_I_np I
  have hp : p < 4 := by omega
  have e1 : vp_in (nI p) 4 := vp_in_nI hp (by decide)
  have e2 : (nI p).toNatClampNeg = p := nI_clamp (by omega)
  by_cases o0 : co (p * 32 + c) = 0
  · exact ⟨(nI np, nI nd, ls, et + 1, nI (sk_lgN es), co, ca, pc, ra, rb, sp, mk, dp, fc, fa, fb, fm, upd sl p 0, upd st p 0, upd lf p 3, upd su p (ra p), upd pg p 0, sk_clr ss (p * 16) 16, upd ql p 0, qs, qr, hd, fl, sk_lgA ek es 7, sk_lgA ep es (nI p), sk_lgA ev es (ra p), sk_lgA er es 0), (nI np, nI nd, ls, et + 1, nI (sk_lgN es), co, ca, pc, ra, rb, sp, mk, dp, upd sl p 0, upd lf p 3, upd su p (ra p), upd ql p 0, upd st p 0, sk_clr pn (p * 16) 16, sk_clr ss (p * 16) 16, qs, qr, hd, fl, fc, fa, fb, fm, sk_lgA ek es 7, sk_lgA ep es (nI p), sk_lgA ev es (ra p), sk_lgA er es 0), sk_mk (sk_I_log (sk_I_die I)), fun post h => sx_x0 hp hc ec o0 hs h, fun post h => sy_s0 hp hc ec hl ht hsl hd0 hs o0 h⟩
  by_cases o4 : co (p * 32 + c) = 4
  · exact ⟨(nI np, nI nd, ls, et, nI es, co, ca, upd pc p (ca (p * 32 + c)), ra, rb, sp, mk, dp, fc, fa, fb, fm, sl, st, lf, su, pg, ss, ql, qs, qr, hd, fl, ek, ep, ev, er), (nI np, nI nd, ls, et, nI es, co, ca, upd pc p (ca (p * 32 + c)), ra, rb, sp, mk, dp, sl, lf, su, ql, st, pn, ss, qs, qr, hd, fl, fc, fa, fb, fm, ek, ep, ev, er), sk_mk I, fun post h => sx_x4 hp hc ec o4 h, fun post h => sy_s4 hp hc ec hl ht hsl hd0 o4 h⟩
  by_cases o5 : co (p * 32 + c) = 5
  · by_cases z : ra p = 0
    · exact ⟨(nI np, nI nd, ls, et, nI es, co, ca, upd pc p (pc p + 1), ra, rb, sp, mk, dp, fc, fa, fb, fm, sl, st, lf, su, pg, ss, ql, qs, qr, hd, fl, ek, ep, ev, er), (nI np, nI nd, ls, et, nI es, co, ca, upd pc p (pc p + 1), ra, rb, sp, mk, dp, sl, lf, su, ql, st, pn, ss, qs, qr, hd, fl, fc, fa, fb, fm, ek, ep, ev, er), sk_mk I, fun post h => sx_x5 hp hc ec o5 z h, fun post h => sy_s5 hp hc ec hl ht hsl hd0 o5 z h⟩
    · exact ⟨(nI np, nI nd, ls, et, nI es, co, ca, upd pc p (ca (p * 32 + c)), ra, rb, sp, mk, dp, fc, fa, fb, fm, sl, st, lf, su, pg, ss, ql, qs, qr, hd, fl, ek, ep, ev, er), (nI np, nI nd, ls, et, nI es, co, ca, upd pc p (ca (p * 32 + c)), ra, rb, sp, mk, dp, sl, lf, su, ql, st, pn, ss, qs, qr, hd, fl, fc, fa, fb, fm, ek, ep, ev, er), sk_mk I, fun post h => sx_x5b hp hc ec o5 z h, fun post h => sy_s5b hp hc ec hl ht hsl hd0 o5 z h⟩
  by_cases o9 : co (p * 32 + c) = 9
  · by_cases z : ca (p * 32 + c) ≤ 0
    · exact ⟨(nI np, nI nd, ls, et, nI es, co, ca, upd pc p (pc p + 1), upd ra p 0, rb, sp, mk, dp, fc, fa, fb, fm, sl, st, lf, su, pg, ss, ql, qs, qr, hd, fl, ek, ep, ev, er), (nI np, nI nd, ls, et, nI es, co, ca, upd pc p (pc p + 1), upd ra p 0, rb, sp, mk, dp, sl, lf, su, ql, st, pn, ss, qs, qr, hd, fl, fc, fa, fb, fm, ek, ep, ev, er), sk_mk I, fun post h => sx_x9b hp hc ec o9 z h, fun post h => sy_sN hp hc ec hl ht hsl hd0 o0 o4 o5 (Or.inr z) (o9 ▸ sy_t9 hp h)⟩
    · exact ⟨(nI np, nI nd, ls, et, nI es, co, ca, pc, ra, rb, sp, mk, dp, fc, fa, fb, fm, upd sl p (ca (p * 32 + c)), st, lf, su, pg, ss, ql, qs, qr, hd, fl, ek, ep, ev, er), (nI np, nI nd, ls, et, nI es, co, ca, pc, ra, rb, sp, mk, dp, upd sl p (ca (p * 32 + c)), lf, su, ql, st, pn, ss, qs, qr, hd, fl, fc, fa, fb, fm, ek, ep, ev, er), sk_mk (sk_I_sl (Int32.le_of_lt (Int32.not_le.mp z)) I), fun post h => sx_x9 hp hc ec o9 z h, fun post h => sy_s9 hp hc ec hl ht hsl hd0 o9 z h⟩
  have sN : ∀ post : Int32 → SY → Prop, wY_step_251 post (nI p) (co (p * 32 + c)) (ca (p * 32 + c)) (nI np) (nI nd) ls et (nI es) co ca pc ra rb sp mk dp sl lf su ql st pn ss qs qr hd fl fc fa fb fm ek ep ev er → wpY_step post (nI np, nI nd, ls, et, nI es, co, ca, pc, ra, rb, sp, mk, dp, sl, lf, su, ql, st, pn, ss, qs, qr, hd, fl, fc, fa, fb, fm, ek, ep, ev, er) (nI p) := fun post h => sy_sN hp hc ec hl ht hsl hd0 o0 o4 o5 (Or.inl o9) h
  by_cases o1 : co (p * 32 + c) = 1
  · exact ⟨(nI np, nI nd, ls, et, nI es, co, ca, upd pc p (pc p + 1), upd ra p (ca (p * 32 + c)), rb, sp, mk, dp, fc, fa, fb, fm, sl, st, lf, su, pg, ss, ql, qs, qr, hd, fl, ek, ep, ev, er), (nI np, nI nd, ls, et, nI es, co, ca, upd pc p (pc p + 1), upd ra p (ca (p * 32 + c)), rb, sp, mk, dp, sl, lf, su, ql, st, pn, ss, qs, qr, hd, fl, fc, fa, fb, fm, ek, ep, ev, er), sk_mk I, fun post h => sx_x1 hp hc ec o1  h, fun post h => sN post (by rw [o1]; exact sy_t1 hp  h)⟩
  by_cases o2 : co (p * 32 + c) = 2
  · exact ⟨(nI np, nI nd, ls, et, nI es, co, ca, upd pc p (pc p + 1), ra, upd rb p (ca (p * 32 + c)), sp, mk, dp, fc, fa, fb, fm, sl, st, lf, su, pg, ss, ql, qs, qr, hd, fl, ek, ep, ev, er), (nI np, nI nd, ls, et, nI es, co, ca, upd pc p (pc p + 1), ra, upd rb p (ca (p * 32 + c)), sp, mk, dp, sl, lf, su, ql, st, pn, ss, qs, qr, hd, fl, fc, fa, fb, fm, ek, ep, ev, er), sk_mk I, fun post h => sx_x2 hp hc ec o2  h, fun post h => sN post (by rw [o2]; exact sy_t2 hp  h)⟩
  by_cases o3 : co (p * 32 + c) = 3
  · exact ⟨(nI np, nI nd, ls, et, nI es, co, ca, upd pc p (pc p + 1), upd ra p (ra p + ca (p * 32 + c)), rb, sp, mk, dp, fc, fa, fb, fm, sl, st, lf, su, pg, ss, ql, qs, qr, hd, fl, ek, ep, ev, er), (nI np, nI nd, ls, et, nI es, co, ca, upd pc p (pc p + 1), upd ra p (ra p + ca (p * 32 + c)), rb, sp, mk, dp, sl, lf, su, ql, st, pn, ss, qs, qr, hd, fl, fc, fa, fb, fm, ek, ep, ev, er), sk_mk I, fun post h => sx_x3 hp hc ec o3  h, fun post h => sN post (by rw [o3]; exact sy_t3 hp  h)⟩
  by_cases o6 : co (p * 32 + c) = 6
  · obtain ⟨r, u, v, R, hX, hY⟩ := sk_send (np := np) (nd := nd) (ls := ls) (et := et) (es := es) (co := co) (ca := ca) (pc := pc) (ra := ra) (rb := rb) (sp := sp) (mk := mk) (dp := dp) (fc := fc) (fa := fa) (fb := fb) (fm := fm) (sl := sl) (st := st) (lf := lf) (su := su) (pg := pg) (ss := ss) (ql := ql) (qs := qs) (qr := qr) (hd := hd) (fl := fl) (ek := ek) (ep := ep) (ev := ev) (er := er) (pn := pn) (rb p) (ca (p * 32 + c)) I
    obtain ⟨nd1, es1, ls1, et1, co1, ca1, pc1, ra1, rb1, sp1, mk1, dp1, fc1, fa1, fb1, fm1, sl1, st1, lf1, su1, pg1, pn1, ss1, ql1, qs1, qr1, hd1, fl1, ek1, ep1, ev1, er1, rfl, rfl, I1⟩ := R
    have e3 : vp_in (nI (p * 32 + c)) 128 := vp_in_nI (by omega) (by decide)
    have e4 : (nI (p * 32 + c)).toNatClampNeg = p * 32 + c := nI_clamp (by omega)
    have e5 : nI p * 32 + pc (nI p).toNatClampNeg = nI (p * 32 + c) := by rw [e2, ec, sk_ix32]
    have ho' : co (nI (p * 32 + c)).toNatClampNeg = 6 := by rw [e4]; exact o6
    have hk' : ca (nI (p * 32 + c)).toNatClampNeg = ca (p * 32 + c) := by rw [e4]
    by_cases y : lf1 p = 0
    · refine ⟨(nI np, nI nd1, ls1, et1, nI es1, co1, ca1, upd pc1 p (pc1 p + 1), upd ra1 p r, rb1, sp1, mk1, dp1, fc1, fa1, fb1, fm1, sl1, st1, lf1, su1, pg1, ss1, ql1, qs1, qr1, hd1, fl1, ek1, ep1, ev1, er1), (nI np, nI nd1, ls1, et1, nI es1, co1, ca1, upd pc1 p (pc1 p + 1), upd ra1 p r, rb1, sp1, mk1, dp1, sl1, lf1, su1, ql1, st1, pn1, ss1, qs1, qr1, hd1, fl1, fc1, fa1, fb1, fm1, ek1, ep1, ev1, er1), sk_mk I1, fun post h => ?_, fun post h => sN post ?_⟩
      · unfold wpX_execute
        refine ⟨e1, nm_r e5 ⟨e3, nm_r ho' ⟨e3, nm_r hk' (br_f (by decide) (br_f (by decide) (br_f (by decide) (br_f (by decide) (br_f (by decide) (br_f (by decide) (br_f (by decide) (br_f (by decide) (br_t rfl ⟨e1, ?_⟩)))))))))⟩⟩⟩
        rw [e2]
        refine hX _ ?_
        simp only [e1, e2, y, true_implies, false_implies, not_true_eq_false, not_false_eq_true, and_true, true_and, forall_eq, implies_true]
        exact h
      · rw [o6]
        unfold wY_step_251
        refine br_f (by decide) ?_
        unfold wY_step_356
        refine br_t rfl ⟨e1, ?_⟩
        rw [e2]
        refine hY _ ?_
        refine ⟨e1, br_t y ⟨e1, nm_e ?_⟩⟩
        exact sy_795 hp h
    · refine ⟨(nI np, nI nd1, ls1, et1, nI es1, co1, ca1, pc1, ra1, rb1, sp1, mk1, dp1, fc1, fa1, fb1, fm1, sl1, st1, lf1, su1, pg1, ss1, ql1, qs1, qr1, hd1, fl1, ek1, ep1, ev1, er1), (nI np, nI nd1, ls1, et1, nI es1, co1, ca1, pc1, ra1, rb1, sp1, mk1, dp1, sl1, lf1, su1, ql1, st1, pn1, ss1, qs1, qr1, hd1, fl1, fc1, fa1, fb1, fm1, ek1, ep1, ev1, er1), sk_mk I1, fun post h => ?_, fun post h => sN post ?_⟩
      · unfold wpX_execute
        refine ⟨e1, nm_r e5 ⟨e3, nm_r ho' ⟨e3, nm_r hk' (br_f (by decide) (br_f (by decide) (br_f (by decide) (br_f (by decide) (br_f (by decide) (br_f (by decide) (br_f (by decide) (br_f (by decide) (br_t rfl ⟨e1, ?_⟩)))))))))⟩⟩⟩
        rw [e2]
        refine hX _ ?_
        simp only [e1, e2, y, true_implies, false_implies, not_true_eq_false, not_false_eq_true, and_true, true_and, forall_eq, implies_true]
        exact h
      · rw [o6]
        unfold wY_step_251
        refine br_f (by decide) ?_
        unfold wY_step_356
        refine br_t rfl ⟨e1, ?_⟩
        rw [e2]
        refine hY _ ?_
        exact ⟨e1, br_f y h⟩
  by_cases o7 : co (p * 32 + c) = 7
  · by_cases k0 : ca (p * 32 + c) = 0
    · exact ⟨(nI np, nI nd, ls, et, nI es, co, ca, upd pc p (pc p + 1), upd ra p (mk p), rb, sp, upd mk p ((mk p ||| ra p) &&& (-33282)), dp, fc, fa, fb, fm, sl, st, lf, su, pg, ss, ql, qs, qr, hd, fl, ek, ep, ev, er), (nI np, nI nd, ls, et, nI es, co, ca, upd pc p (pc p + 1), upd ra p (mk p), rb, sp, upd mk p ((mk p ||| ra p) &&& (-33282)), dp, sl, lf, su, ql, st, pn, ss, qs, qr, hd, fl, fc, fa, fb, fm, ek, ep, ev, er), sk_mk (sk_I_mk (sk_clean _) I), fun post h => sx_x7a hp hc ec o7 k0 h, fun post h => sN post (by rw [o7]; exact sy_t7a hp k0 h)⟩
    by_cases k1 : ca (p * 32 + c) = 1
    · exact ⟨(nI np, nI nd, ls, et, nI es, co, ca, upd pc p (pc p + 1), upd ra p (mk p), rb, sp, upd mk p ((mk p &&& (ra p ^^^ (-1))) &&& (-33282)), dp, fc, fa, fb, fm, sl, st, lf, su, pg, ss, ql, qs, qr, hd, fl, ek, ep, ev, er), (nI np, nI nd, ls, et, nI es, co, ca, upd pc p (pc p + 1), upd ra p (mk p), rb, sp, upd mk p ((mk p &&& (ra p ^^^ (-1))) &&& (-33282)), dp, sl, lf, su, ql, st, pn, ss, qs, qr, hd, fl, fc, fa, fb, fm, ek, ep, ev, er), sk_mk (sk_I_mk (sk_clean _) I), fun post h => sx_x7b hp hc ec o7 k1 h, fun post h => sN post (by rw [o7]; exact sy_t7b hp k1 h)⟩
    by_cases k2 : ca (p * 32 + c) = 2
    · exact ⟨(nI np, nI nd, ls, et, nI es, co, ca, upd pc p (pc p + 1), upd ra p (mk p), rb, sp, upd mk p ((ra p) &&& (-33282)), dp, fc, fa, fb, fm, sl, st, lf, su, pg, ss, ql, qs, qr, hd, fl, ek, ep, ev, er), (nI np, nI nd, ls, et, nI es, co, ca, upd pc p (pc p + 1), upd ra p (mk p), rb, sp, upd mk p ((ra p) &&& (-33282)), dp, sl, lf, su, ql, st, pn, ss, qs, qr, hd, fl, fc, fa, fb, fm, ek, ep, ev, er), sk_mk (sk_I_mk (sk_clean _) I), fun post h => sx_x7c hp hc ec o7 k2 h, fun post h => sN post (by rw [o7]; exact sy_t7c hp k2 h)⟩
    exact ⟨(nI np, nI nd, ls, et, nI es, co, ca, upd pc p (pc p + 1), upd ra p (-22), rb, sp, mk, dp, fc, fa, fb, fm, sl, st, lf, su, pg, ss, ql, qs, qr, hd, fl, ek, ep, ev, er), (nI np, nI nd, ls, et, nI es, co, ca, upd pc p (pc p + 1), upd ra p (-22), rb, sp, mk, dp, sl, lf, su, ql, st, pn, ss, qs, qr, hd, fl, fc, fa, fb, fm, ek, ep, ev, er), sk_mk I, fun post h => sx_x7d hp hc ec o7 k0 k1 k2 h, fun post h => sN post (by rw [o7]; exact sy_t7d hp k0 k1 k2 h)⟩
  by_cases o8 : co (p * 32 + c) = 8
  · have e3 : vp_in (nI (p * 32 + c)) 128 := vp_in_nI (by omega) (by decide)
    have e4 : (nI (p * 32 + c)).toNatClampNeg = p * 32 + c := nI_clamp (by omega)
    have e5 : nI p * 32 + pc (nI p).toNatClampNeg = nI (p * 32 + c) := by rw [e2, ec, sk_ix32]
    have ho' : co (nI (p * 32 + c)).toNatClampNeg = 8 := by rw [e4]; exact o8
    have hk' : ca (nI (p * 32 + c)).toNatClampNeg = ca (p * 32 + c) := by rw [e4]
    rcases sk_cat (ca (p * 32 + c)) with hk | ⟨g, h1, hg, h9, h15, hk⟩
    · refine ⟨(nI np, nI nd, ls, et, nI es, co, ca, upd pc p (pc p + 1), upd ra p (-22), rb, sp, mk, dp, fc, fa, fb, fm, sl, st, lf, su, pg, ss, ql, qs, qr, hd, fl, ek, ep, ev, er), (nI np, nI nd, ls, et, nI es, co, ca, upd pc p (pc p + 1), upd ra p (-22), rb, sp, mk, dp, sl, lf, su, ql, st, pn, ss, qs, qr, hd, fl, fc, fa, fb, fm, ek, ep, ev, er), sk_mk I, fun post h => ?_, fun post h => sN post (by rw [o8]; exact sy_t8b hp (fun q hq => sy_ok0 hk hq) h)⟩
      · unfold wpX_execute
        refine ⟨e1, nm_r e5 ⟨e3, nm_r ho' ⟨e3, nm_r hk' (br_f (by decide) (br_f (by decide) (br_f (by decide) (br_f (by decide) (br_f (by decide) (br_f (by decide) (br_f (by decide) (br_f (by decide) (br_f (by decide) (br_f (by decide) (br_t rfl ⟨e1, e1, ?_⟩)))))))))))⟩⟩⟩
        rw [e2]
        refine sx_seta0 hp' hn hl hk ?_
        simp only [e1, e2, true_implies, false_implies, not_true_eq_false, not_false_eq_true, and_true, true_and, forall_eq, implies_true]
        exact h
    · rcases sk_hd (ra p) with hx | ⟨n1, n2, hx⟩
      · rw [hk] at hk'
        have hx' : ra p = -2 ∨ ra p = -1 ∨ 0 ≤ ra p := hx.imp_right fun z => z.imp_right fun ⟨j, hj, e⟩ => by rw [e]; exact nI_pos' (by omega)
        refine ⟨(nI np, nI nd, ls, et, nI es, co, ca, upd pc p (pc p + 1), upd ra p (hd (p * 32 + g)), rb, sp, mk, dp, fc, fa, fb, fm, sl, st, lf, su, pg, ss, ql, qs, qr, upd hd (p * 32 + g) (ra p), upd fl (p * 32 + g) (rb p &&& 7), ek, ep, ev, er), (nI np, nI nd, ls, et, nI es, co, ca, upd pc p (pc p + 1), upd ra p (hd (p * 32 + g)), rb, sp, mk, dp, sl, lf, su, ql, st, pn, ss, qs, qr, upd hd (p * 32 + g) (ra p), upd fl (p * 32 + g) (rb p &&& 7), fc, fa, fb, fm, ek, ep, ev, er), sk_mk (sk_I_hd hx' I), fun post h => ?_, fun post h => sN post (by rw [o8, hk]; exact sy_t8 hp h1 hg h9 h15 hx h)⟩
        unfold wpX_execute
        refine ⟨e1, nm_r e5 ⟨e3, nm_r ho' ⟨e3, nm_r hk' (br_f (by decide) (br_f (by decide) (br_f (by decide) (br_f (by decide) (br_f (by decide) (br_f (by decide) (br_f (by decide) (br_f (by decide) (br_f (by decide) (br_f (by decide) (br_t rfl ⟨e1, e1, ?_⟩)))))))))))⟩⟩⟩
        rw [e2]
        refine sx_seta1 hp' hn hl h1 hg h9 h15 hx ?_
        simp only [e1, e2, true_implies, false_implies, not_true_eq_false, not_false_eq_true, and_true, true_and, forall_eq, implies_true]
        exact h
      · rw [hk] at hk'
        refine ⟨(nI np, nI nd, ls, et, nI es, co, ca, upd pc p (pc p + 1), upd ra p (-22), rb, sp, mk, dp, fc, fa, fb, fm, sl, st, lf, su, pg, ss, ql, qs, qr, hd, fl, ek, ep, ev, er), (nI np, nI nd, ls, et, nI es, co, ca, upd pc p (pc p + 1), upd ra p (-22), rb, sp, mk, dp, sl, lf, su, ql, st, pn, ss, qs, qr, hd, fl, fc, fa, fb, fm, ek, ep, ev, er), sk_mk I, fun post h => ?_, fun post h => sN post (by rw [o8, hk]; exact sy_t8b hp (fun q hq => sy_ok2 h1 hg h9 h15 n1 n2 hx hq) h)⟩
        unfold wpX_execute
        refine ⟨e1, nm_r e5 ⟨e3, nm_r ho' ⟨e3, nm_r hk' (br_f (by decide) (br_f (by decide) (br_f (by decide) (br_f (by decide) (br_f (by decide) (br_f (by decide) (br_f (by decide) (br_f (by decide) (br_f (by decide) (br_f (by decide) (br_t rfl ⟨e1, e1, ?_⟩)))))))))))⟩⟩⟩
        rw [e2]
        refine sx_seta2 hp' hn hl h1 hg h9 h15 n1 n2 hx ?_
        simp only [e1, e2, true_implies, false_implies, not_true_eq_false, not_false_eq_true, and_true, true_and, forall_eq, implies_true]
        exact h
  by_cases o10 : co (p * 32 + c) = 10
  · obtain ⟨d', hd4, ed⟩ := I.2.2.2.2.2.1 p hp
    have hf := I.2.2.2.2.2.2.2.2.2.2
    cases d' with
    | zero =>
      exact ⟨(nI np, nI nd, ls, et, nI es, co, ca, upd pc p (pc p + 1), upd ra p (-22), rb, sp, mk, dp, fc, fa, fb, fm, sl, st, lf, su, pg, ss, ql, qs, qr, hd, fl, ek, ep, ev, er), (nI np, nI nd, ls, et, nI es, co, ca, upd pc p (pc p + 1), upd ra p (-22), rb, sp, mk, dp, sl, lf, su, ql, st, pn, ss, qs, qr, hd, fl, fc, fa, fb, fm, ek, ep, ev, er), sk_mk I, fun post h => sx_x10b hp hc ec o10 ed h, fun post h => sN post (by rw [o10]; exact sy_t10b hp ed h)⟩
    | succ d =>
      exact ⟨(nI np, nI nd, ls, et, nI es, co, ca, upd pc p (fc (p * 4 + d)), upd ra p (fa (p * 4 + d)), upd rb p (fb (p * 4 + d)), upd sp p (sp p + 4), upd mk p (fm (p * 4 + d)), upd dp p (nI d), fc, fa, fb, fm, sl, st, lf, su, pg, ss, ql, qs, qr, hd, fl, ek, ep, ev, er), (nI np, nI nd, ls, et, nI es, co, ca, upd pc p (fc (p * 4 + d)), upd ra p (fa (p * 4 + d)), upd rb p (fb (p * 4 + d)), upd sp p (sp p + 4), upd mk p (fm (p * 4 + d)), upd dp p (nI d), sl, lf, su, ql, st, pn, ss, qs, qr, hd, fl, fc, fa, fb, fm, ek, ep, ev, er), sk_mk (sk_I_mk (hf _) (sk_I_dp (by omega) I)), fun post h => sx_x10 hp hc ec o10 hd4 ed h, fun post h => sN post (by rw [o10]; exact sy_t10 hp hd4 ed (hf _) h)⟩
  by_cases o11 : co (p * 32 + c) = 11
  · exact ⟨(nI np, nI nd, ls, et + 1, nI (sk_lgN es), co, ca, upd pc p (pc p + 1), ra, rb, sp, mk, dp, fc, fa, fb, fm, sl, st, lf, su, pg, ss, ql, qs, qr, hd, fl, sk_lgA ek es 6, sk_lgA ep es (nI p), sk_lgA ev es (ra p), sk_lgA er es 0), (nI np, nI nd, ls, et + 1, nI (sk_lgN es), co, ca, upd pc p (pc p + 1), ra, rb, sp, mk, dp, sl, lf, su, ql, st, pn, ss, qs, qr, hd, fl, fc, fa, fb, fm, sk_lgA ek es 6, sk_lgA ep es (nI p), sk_lgA ev es (ra p), sk_lgA er es 0), sk_mk (sk_I_log I), fun post h => sx_x11 hp hc ec o11 hs h, fun post h => sN post (by rw [o11]; exact sy_t11 hp hs h)⟩
  by_cases o12 : co (p * 32 + c) = 12
  · exact ⟨(nI np, nI nd, ls, et, nI es, co, ca, upd pc p (pc p + 1), ra, upd rb p (nI p), sp, mk, dp, fc, fa, fb, fm, sl, st, lf, su, pg, ss, ql, qs, qr, hd, fl, ek, ep, ev, er), (nI np, nI nd, ls, et, nI es, co, ca, upd pc p (pc p + 1), ra, upd rb p (nI p), sp, mk, dp, sl, lf, su, ql, st, pn, ss, qs, qr, hd, fl, fc, fa, fb, fm, ek, ep, ev, er), sk_mk I, fun post h => sx_x12 hp hc ec o12  h, fun post h => sN post (by rw [o12]; exact sy_t12 hp  h)⟩
  by_cases o13 : co (p * 32 + c) = 13
  · obtain ⟨l, hl8, el, _⟩ := I.2.2.2.2.2.2.1 p hp
    exact ⟨(nI np, nI nd, ls, et, nI es, co, ca, upd pc p (pc p + 1), upd ra p (sk_orq (pg p) qs (p * 8) l), rb, sp, mk, dp, fc, fa, fb, fm, sl, st, lf, su, pg, ss, ql, qs, qr, hd, fl, ek, ep, ev, er), (nI np, nI nd, ls, et, nI es, co, ca, upd pc p (pc p + 1), upd ra p (sk_orq (pg p) qs (p * 8) l), rb, sp, mk, dp, sl, lf, su, ql, st, pn, ss, qs, qr, hd, fl, fc, fa, fb, fm, ek, ep, ev, er), sk_mk I, fun post h => sx_x13 hp hc ec o13 hl8 el h, fun post h => sN post (by rw [o13]; exact sy_t13 hp hl8 el (I.2.2.2.1 p hp) h)⟩
  by_cases o14 : co (p * 32 + c) = 14
  · exact ⟨(nI np, nI nd, ls, et, nI es, co, ca, upd pc p (pc p + 1), upd ra p (rb p), upd rb p (ra p), sp, mk, dp, fc, fa, fb, fm, sl, st, lf, su, pg, ss, ql, qs, qr, hd, fl, ek, ep, ev, er), (nI np, nI nd, ls, et, nI es, co, ca, upd pc p (pc p + 1), upd ra p (rb p), upd rb p (ra p), sp, mk, dp, sl, lf, su, ql, st, pn, ss, qs, qr, hd, fl, fc, fa, fb, fm, ek, ep, ev, er), sk_mk I, fun post h => sx_x14 hp hc ec o14  h, fun post h => sN post (by rw [o14]; exact sy_t14 hp  h)⟩
  exact ⟨(nI np, nI nd, ls, et, nI es, co, ca, upd pc p (pc p + 1), ra, rb, sp, mk, dp, fc, fa, fb, fm, sl, st, lf, su, pg, ss, ql, qs, qr, hd, fl, ek, ep, ev, er), (nI np, nI nd, ls, et, nI es, co, ca, upd pc p (pc p + 1), ra, rb, sp, mk, dp, sl, lf, su, ql, st, pn, ss, qs, qr, hd, fl, fc, fa, fb, fm, ek, ep, ev, er), sk_mk I, fun post h => sx_xN hp hc ec o0 o1 o2 o3 o4 o5 o6 o7 o8 o9 o10 o11 o12 o13 o14 h, fun post h => sN post (sy_tN hp o1 o2 o3 o6 o7 o8 o9 o10 o11 o12 o13 o14 h)⟩
theorem sk_step {p : Nat} (I : sk_Inv np nd es pg pn ss dp ql qs hd sl mk fm) (hp' : p < np) (hl : lf p = 0) (ht : st p = 0) : ∃ u v, sk_Rel np u v ∧ (∀ post : SX → Prop, post u → wpX_step post (nI np, nI nd, ls, et, nI es, co, ca, pc, ra, rb, sp, mk, dp, fc, fa, fb, fm, sl, st, lf, su, pg, ss, ql, qs, qr, hd, fl, ek, ep, ev, er) (nI p)) ∧ (∀ post : Int32 → SY → Prop, post 1 v → wpY_step post (nI np, nI nd, ls, et, nI es, co, ca, pc, ra, rb, sp, mk, dp, sl, lf, su, ql, st, pn, ss, qs, qr, hd, fl, fc, fa, fb, fm, ek, ep, ev, er) (nI p)) := by
  have hs := sk_I_es I
  have hn := sk_I_np I
  have hp : p < 4 := by omega
  have e1 : vp_in (nI p) 4 := vp_in_nI hp (by decide)
  have e2 : (nI p).toNatClampNeg = p := nI_clamp (by omega)
  rcases sk_deliver I hp with ⟨u, v, R, hX, hY⟩ | ⟨hX, hY⟩
  · obtain ⟨nd1, es1, ls1, et1, co1, ca1, pc1, ra1, rb1, sp1, mk1, dp1, fc1, fa1, fb1, fm1, sl1, st1, lf1, su1, pg1, pn1, ss1, ql1, qs1, qr1, hd1, fl1, ek1, ep1, ev1, er1, rfl, rfl, I1⟩ := R
    refine ⟨(nI np, nI nd1, ls1, et1, nI es1, co1, ca1, pc1, ra1, rb1, sp1, mk1, dp1, fc1, fa1, fb1, fm1, sl1, st1, lf1, su1, pg1, ss1, ql1, qs1, qr1, hd1, fl1, ek1, ep1, ev1, er1), (nI np, nI nd1, ls1, et1, nI es1, co1, ca1, pc1, ra1, rb1, sp1, mk1, dp1, sl1, lf1, su1, ql1, st1, pn1, ss1, qs1, qr1, hd1, fl1, fc1, fa1, fb1, fm1, ek1, ep1, ev1, er1), sk_mk I1, fun post h => ?_, fun post h => ?_⟩
    · unfold wpX_step
      exact hX _ (br_f (by decide) h)
    · unfold wpY_step
      exact ⟨e1, br_t (by rw [e2]; exact hl) ⟨e1, br_t (by rw [e2]; exact ht) (hY _ (br_f (by decide) h))⟩⟩
  · by_cases hsl : sl p ≤ 0
    · rcases pk_ix (pc p) (n := 32) (by decide) with hc | hc | ⟨c, hc, ec⟩
      · refine ⟨(nI np, nI nd, ls, et + 1, nI (sk_lgN es), co, ca, pc, ra, rb, sp, mk, dp, fc, fa, fb, fm, upd sl p 0, upd st p 0, upd lf p 4, upd su p 11, upd pg p 0, sk_clr ss (p * 16) 16, upd ql p 0, qs, qr, hd, fl, sk_lgA ek es 2, sk_lgA ep es (nI p), sk_lgA ev es 11, sk_lgA er es 0), (nI np, nI nd, ls, et + 1, nI (sk_lgN es), co, ca, pc, ra, rb, sp, mk, dp, upd sl p 0, upd lf p 4, upd su p 11, upd ql p 0, upd st p 0, sk_clr pn (p * 16) 16, sk_clr ss (p * 16) 16, qs, qr, hd, fl, fc, fa, fb, fm, sk_lgA ek es 2, sk_lgA ep es (nI p), sk_lgA ev es 11, sk_lgA er es 0), sk_mk (sk_I_log (sk_I_die I)), fun post h => ?_, fun post h => ?_⟩
        · unfold wpX_step
          refine hX _ (br_t rfl ⟨e1, br_t (by rw [e2]; exact hsl) ⟨e1, ?_⟩⟩)
          rw [e2]
          refine sx_cell0 (Or.inl hc) ?_
          refine br_t rfl ?_
          refine sx_term hp hs ?_
          exact h
        · unfold wpY_step
          refine ⟨e1, br_t (by rw [e2]; exact hl) ⟨e1, br_t (by rw [e2]; exact ht) (hY _ (br_t rfl ⟨e1, br_t (by rw [e2]; exact hsl) ⟨e1, br_t (by rw [e2]; exact hc) ?_⟩⟩))⟩⟩
          unfold wY_step_97
          refine sy_die hp ?_
          refine sy_log hs ?_
          exact h
      · refine ⟨(nI np, nI nd, ls, et + 1, nI (sk_lgN es), co, ca, pc, ra, rb, sp, mk, dp, fc, fa, fb, fm, upd sl p 0, upd st p 0, upd lf p 4, upd su p 11, upd pg p 0, sk_clr ss (p * 16) 16, upd ql p 0, qs, qr, hd, fl, sk_lgA ek es 2, sk_lgA ep es (nI p), sk_lgA ev es 11, sk_lgA er es 0), (nI np, nI nd, ls, et + 1, nI (sk_lgN es), co, ca, pc, ra, rb, sp, mk, dp, upd sl p 0, upd lf p 4, upd su p 11, upd ql p 0, upd st p 0, sk_clr pn (p * 16) 16, sk_clr ss (p * 16) 16, qs, qr, hd, fl, fc, fa, fb, fm, sk_lgA ek es 2, sk_lgA ep es (nI p), sk_lgA ev es 11, sk_lgA er es 0), sk_mk (sk_I_log (sk_I_die I)), fun post h => ?_, fun post h => ?_⟩
        · unfold wpX_step
          refine hX _ (br_t rfl ⟨e1, br_t (by rw [e2]; exact hsl) ⟨e1, ?_⟩⟩)
          rw [e2]
          refine sx_cell0 (Or.inr hc) ?_
          refine br_t rfl ?_
          refine sx_term hp hs ?_
          exact h
        · have hc0 : ¬ pc p < 0 := Int32.not_lt.mpr (Int32.le_trans (by decide) hc)
          have hc1 : ¬ pc p ≤ 31 := Int32.not_le.mpr (Int32.lt_of_lt_of_le (by decide) hc)
          unfold wpY_step
          refine ⟨e1, br_t (by rw [e2]; exact hl) ⟨e1, br_t (by rw [e2]; exact ht) (hY _ (br_t rfl ⟨e1, br_t (by rw [e2]; exact hsl) ⟨e1, br_f (by rw [e2]; exact hc0) ⟨e1, br_f (by rw [e2]; exact hc1) ?_⟩⟩⟩))⟩⟩
          unfold wY_step_97
          refine sy_die hp ?_
          refine sy_log hs ?_
          exact h
      · obtain ⟨u, v, R, hX', hY'⟩ := sk_exec I hp' hc ec hl ht hsl hY
        obtain ⟨nd1, es1, ls1, et1, co1, ca1, pc1, ra1, rb1, sp1, mk1, dp1, fc1, fa1, fb1, fm1, sl1, st1, lf1, su1, pg1, pn1, ss1, ql1, qs1, qr1, hd1, fl1, ek1, ep1, ev1, er1, rfl, rfl, I1⟩ := R
        refine ⟨(nI np, nI nd1, ls1, et1, nI es1, co1, ca1, pc1, ra1, rb1, sp1, mk1, dp1, fc1, fa1, fb1, fm1, sl1, st1, lf1, su1, pg1, ss1, ql1, qs1, qr1, hd1, fl1, ek1, ep1, ev1, er1), (nI np, nI nd1, ls1, et1, nI es1, co1, ca1, pc1, ra1, rb1, sp1, mk1, dp1, sl1, lf1, su1, ql1, st1, pn1, ss1, qs1, qr1, hd1, fl1, fc1, fa1, fb1, fm1, ek1, ep1, ev1, er1), sk_mk I1, fun post h => ?_, hY'⟩
        unfold wpX_step
        refine hX _ (br_t rfl ⟨e1, br_t (by rw [e2]; exact hsl) ⟨e1, ?_⟩⟩)
        rw [e2, ec]
        refine sx_cell1 hc ?_
        refine br_f (by decide) ?_
        exact hX' _ h
    · by_cases z : sl p - 1 = 0
      · refine ⟨(nI np, nI nd, ls, et, nI es, co, ca, upd pc p (pc p + 1), upd ra p 0, rb, sp, mk, dp, fc, fa, fb, fm, upd sl p (sl p - 1), st, lf, su, pg, ss, ql, qs, qr, hd, fl, ek, ep, ev, er), (nI np, nI nd, ls, et, nI es, co, ca, upd pc p (pc p + 1), upd ra p 0, rb, sp, mk, dp, upd sl p (sl p - 1), lf, su, ql, st, pn, ss, qs, qr, hd, fl, fc, fa, fb, fm, ek, ep, ev, er), sk_mk (sk_I_sl (sk_dec hsl) I), fun post h => ?_, fun post h => ?_⟩
        · unfold wpX_step
          refine hX _ (br_t rfl ⟨e1, br_f (by rw [e2]; exact hsl) ?_⟩)
          simp only [wpX_sleepOn, e1, e2, pk_us, z, true_implies, false_implies, not_true_eq_false, not_false_eq_true, and_true, true_and, forall_eq, implies_true]
          rw [z] at h
          exact h
        · unfold wpY_step
          refine ⟨e1, br_t (by rw [e2]; exact hl) ⟨e1, br_t (by rw [e2]; exact ht) (hY _ (br_t rfl ⟨e1, br_f (by rw [e2]; exact hsl) ?_⟩))⟩⟩
          simp only [e1, e2, pk_us, z, true_implies, false_implies, not_true_eq_false, not_false_eq_true, and_true, true_and, forall_eq, implies_true]
          rw [z] at h
          exact h
      · refine ⟨(nI np, nI nd, ls, et, nI es, co, ca, pc, ra, rb, sp, mk, dp, fc, fa, fb, fm, upd sl p (sl p - 1), st, lf, su, pg, ss, ql, qs, qr, hd, fl, ek, ep, ev, er), (nI np, nI nd, ls, et, nI es, co, ca, pc, ra, rb, sp, mk, dp, upd sl p (sl p - 1), lf, su, ql, st, pn, ss, qs, qr, hd, fl, fc, fa, fb, fm, ek, ep, ev, er), sk_mk (sk_I_sl (sk_dec hsl) I), fun post h => ?_, fun post h => ?_⟩
        · unfold wpX_step
          refine hX _ (br_t rfl ⟨e1, br_f (by rw [e2]; exact hsl) ?_⟩)
          simp only [wpX_sleepOn, e1, e2, pk_us, z, true_implies, false_implies, not_true_eq_false, not_false_eq_true, and_true, true_and, forall_eq, implies_true]
          exact h
        · unfold wpY_step
          refine ⟨e1, br_t (by rw [e2]; exact hl) ⟨e1, br_t (by rw [e2]; exact ht) (hY _ (br_t rfl ⟨e1, br_f (by rw [e2]; exact hsl) ?_⟩))⟩⟩
          simp only [e1, e2, pk_us, z, true_implies, false_implies, not_true_eq_false, not_false_eq_true, and_true, true_and, forall_eq, implies_true]
          exact h
end
end
section
theorem sk_inner {np : Nat} : ∀ (d p : Nat) (c : Int32) (nd es : Nat) (ls et : Int32) (co ca pc ra rb sp mk dp fc fa fb fm sl st lf su pg pn ss ql qs qr hd fl ek ep ev er : Nat → Int32), sk_Inv np nd es pg pn ss dp ql qs hd sl mk fm → p + d = np → ∃ (c' : Int32) (nd1 es1 : Nat) (ls1 et1 : Int32) (co1 ca1 pc1 ra1 rb1 sp1 mk1 dp1 fc1 fa1 fb1 fm1 sl1 st1 lf1 su1 pg1 pn1 ss1 ql1 qs1 qr1 hd1 fl1 ek1 ep1 ev1 er1 : Nat → Int32), sk_Inv np nd1 es1 pg1 pn1 ss1 dp1 ql1 qs1 hd1 sl1 mk1 fm1 ∧ (∀ (post : Int32 → SX → Prop) (J : Int32 → Int32 → Int32 → Int32 → Int32 → Int32 → Int32 → (Nat → Int32) → (Nat → Int32) → (Nat → Int32) → (Nat → Int32) → (Nat → Int32) → (Nat → Int32) → (Nat → Int32) → (Nat → Int32) → (Nat → Int32) → (Nat → Int32) → (Nat → Int32) → (Nat → Int32) → (Nat → Int32) → (Nat → Int32) → (Nat → Int32) → (Nat → Int32) → (Nat → Int32) → (Nat → Int32) → (Nat → Int32) → (Nat → Int32) → (Nat → Int32) → (Nat → Int32) → (Nat → Int32) → (Nat → Int32) → (Nat → Int32) → (Nat → Int32) → (Nat → Int32) → Prop) (x2 x4 : Int32), J c' (x4 + 1) (nI np) (nI nd1) ls1 et1 (nI es1) co1 ca1 pc1 ra1 rb1 sp1 mk1 dp1 fc1 fa1 fb1 fm1 sl1 st1 lf1 su1 pg1 ss1 ql1 qs1 qr1 hd1 fl1 ek1 ep1 ev1 er1 → wX_run_22 post J x2 x4 (d + 1) c (nI p) (nI np) (nI nd) ls et (nI es) co ca pc ra rb sp mk dp fc fa fb fm sl st lf su pg ss ql qs qr hd fl ek ep ev er) ∧ (∀ (post : Int32 → SY → Prop) (J : Int32 → Int32 → Int32 → Int32 → Int32 → Int32 → Int32 → (Nat → Int32) → (Nat → Int32) → (Nat → Int32) → (Nat → Int32) → (Nat → Int32) → (Nat → Int32) → (Nat → Int32) → (Nat → Int32) → (Nat → Int32) → (Nat → Int32) → (Nat → Int32) → (Nat → Int32) → (Nat → Int32) → (Nat → Int32) → (Nat → Int32) → (Nat → Int32) → (Nat → Int32) → (Nat → Int32) → (Nat → Int32) → (Nat → Int32) → (Nat → Int32) → (Nat → Int32) → (Nat → Int32) → (Nat → Int32) → (Nat → Int32) → (Nat → Int32) → (Nat → Int32) → Prop) (x2 x4 : Int32), J c' (x4 + 1) (nI np) (nI nd1) ls1 et1 (nI es1) co1 ca1 pc1 ra1 rb1 sp1 mk1 dp1 sl1 lf1 su1 ql1 st1 pn1 ss1 qs1 qr1 hd1 fl1 fc1 fa1 fb1 fm1 ek1 ep1 ev1 er1 → wY_run_35 post J x2 x4 (d + 1) c (nI p) (nI np) (nI nd) ls et (nI es) co ca pc ra rb sp mk dp sl lf su ql st pn ss qs qr hd fl fc fa fb fm ek ep ev er) := by
  intro d
  induction d with
  | zero =>
    intro p c nd es ls et co ca pc ra rb sp mk dp fc fa fb fm sl st lf su pg pn ss ql qs qr hd fl ek ep ev er I hsum
    have hn := sk_I_np I
    have z : nI np ≤ nI p := nI_le (by omega) (by omega)
    refine ⟨c, nd, es, ls, et, co, ca, pc, ra, rb, sp, mk, dp, fc, fa, fb, fm, sl, st, lf, su, pg, pn, ss, ql, qs, qr, hd, fl, ek, ep, ev, er, I, fun post J x2 x4 h => ?_, fun post J x2 x4 h => ?_⟩
    · rw [wX_run_22]
      exact br_t z (nm_e h)
    · rw [wY_run_35]
      exact br_t z (nm_e h)
  | succ d ih =>
    intro p c nd es ls et co ca pc ra rb sp mk dp fc fa fb fm sl st lf su pg pn ss ql qs qr hd fl ek ep ev er I hsum
    have hn := sk_I_np I
    have hp : p < 4 := by omega
    have e1 : vp_in (nI p) 4 := vp_in_nI hp (by decide)
    have e2 : (nI p).toNatClampNeg = p := nI_clamp (by omega)
    have z : ¬ nI np ≤ nI p := nI_ge (by omega) (by omega)
    by_cases hl : lf p = 0
    · by_cases ht : st p = 0
      · obtain ⟨u, v, R, hX, hY⟩ := sk_step I (by omega) hl ht
        obtain ⟨nd1, es1, ls1, et1, co1, ca1, pc1, ra1, rb1, sp1, mk1, dp1, fc1, fa1, fb1, fm1, sl1, st1, lf1, su1, pg1, pn1, ss1, ql1, qs1, qr1, hd1, fl1, ek1, ep1, ev1, er1, rfl, rfl, I1⟩ := R
        obtain ⟨c', nd2, es2, ls2, et2, co2, ca2, pc2, ra2, rb2, sp2, mk2, dp2, fc2, fa2, fb2, fm2, sl2, st2, lf2, su2, pg2, pn2, ss2, ql2, qs2, qr2, hd2, fl2, ek2, ep2, ev2, er2, I2, hX2, hY2⟩ := ih (p + 1) (c + 1) nd1 es1 ls1 et1 co1 ca1 pc1 ra1 rb1 sp1 mk1 dp1 fc1 fa1 fb1 fm1 sl1 st1 lf1 su1 pg1 pn1 ss1 ql1 qs1 qr1 hd1 fl1 ek1 ep1 ev1 er1 I1 (by omega)
        refine ⟨c', nd2, es2, ls2, et2, co2, ca2, pc2, ra2, rb2, sp2, mk2, dp2, fc2, fa2, fb2, fm2, sl2, st2, lf2, su2, pg2, pn2, ss2, ql2, qs2, qr2, hd2, fl2, ek2, ep2, ev2, er2, I2, fun post J x2 x4 h => ?_, fun post J x2 x4 h => ?_⟩
        · rw [wX_run_22]
          refine br_f z ⟨e1, br_t (by rw [e2]; exact hl) ⟨e1, br_t (by rw [e2]; exact ht) (hX _ ?_)⟩⟩
          exact nm_e (nm_r (nI_1 p) (hX2 post J x2 x4 h))
        · rw [wY_run_35]
          refine br_f z (hY _ ?_)
          exact br_f (by decide) (nm_e (nm_r (nI_1 p) (hY2 post J x2 x4 h)))
      · obtain ⟨c', nd2, es2, ls2, et2, co2, ca2, pc2, ra2, rb2, sp2, mk2, dp2, fc2, fa2, fb2, fm2, sl2, st2, lf2, su2, pg2, pn2, ss2, ql2, qs2, qr2, hd2, fl2, ek2, ep2, ev2, er2, I2, hX2, hY2⟩ := ih (p + 1) c nd es ls et co ca pc ra rb sp mk dp fc fa fb fm sl st lf su pg pn ss ql qs qr hd fl ek ep ev er I (by omega)
        refine ⟨c', nd2, es2, ls2, et2, co2, ca2, pc2, ra2, rb2, sp2, mk2, dp2, fc2, fa2, fb2, fm2, sl2, st2, lf2, su2, pg2, pn2, ss2, ql2, qs2, qr2, hd2, fl2, ek2, ep2, ev2, er2, I2, fun post J x2 x4 h => ?_, fun post J x2 x4 h => ?_⟩
        · rw [wX_run_22]
          refine br_f z ⟨e1, br_t (by rw [e2]; exact hl) ⟨e1, br_f (by rw [e2]; exact ht) ?_⟩⟩
          exact nm_r (nI_1 p) (hX2 post J x2 x4 h)
        · rw [wY_run_35]
          refine br_f z ?_
          unfold wpY_step
          refine ⟨e1, br_t (by rw [e2]; exact hl) ⟨e1, br_f (by rw [e2]; exact ht) ?_⟩⟩
          exact br_t rfl (nm_r (nI_1 p) (hY2 post J x2 x4 h))
    · obtain ⟨c', nd2, es2, ls2, et2, co2, ca2, pc2, ra2, rb2, sp2, mk2, dp2, fc2, fa2, fb2, fm2, sl2, st2, lf2, su2, pg2, pn2, ss2, ql2, qs2, qr2, hd2, fl2, ek2, ep2, ev2, er2, I2, hX2, hY2⟩ := ih (p + 1) c nd es ls et co ca pc ra rb sp mk dp fc fa fb fm sl st lf su pg pn ss ql qs qr hd fl ek ep ev er I (by omega)
      refine ⟨c', nd2, es2, ls2, et2, co2, ca2, pc2, ra2, rb2, sp2, mk2, dp2, fc2, fa2, fb2, fm2, sl2, st2, lf2, su2, pg2, pn2, ss2, ql2, qs2, qr2, hd2, fl2, ek2, ep2, ev2, er2, I2, fun post J x2 x4 h => ?_, fun post J x2 x4 h => ?_⟩
      · rw [wX_run_22]
        refine br_f z ⟨e1, br_f (by rw [e2]; exact hl) ?_⟩
        exact nm_r (nI_1 p) (hX2 post J x2 x4 h)
      · rw [wY_run_35]
        refine br_f z ?_
        unfold wpY_step
        refine ⟨e1, br_f (by rw [e2]; exact hl) ?_⟩
        exact br_t rfl (nm_r (nI_1 p) (hY2 post J x2 x4 h))
theorem sk_outer {np w : Nat} (hw : w ≤ 64) : ∀ (d i : Nat) (c : Int32) (nd es : Nat) (ls et : Int32) (co ca pc ra rb sp mk dp fc fa fb fm sl st lf su pg pn ss ql qs qr hd fl ek ep ev er : Nat → Int32), sk_Inv np nd es pg pn ss dp ql qs hd sl mk fm → i + d = w → ∃ r u v, sk_Rel np u v ∧ (∀ post : Int32 → SX → Prop, post r u → wX_run_13 post (nI w) (d + 1) c (nI i) (nI np) (nI nd) ls et (nI es) co ca pc ra rb sp mk dp fc fa fb fm sl st lf su pg ss ql qs qr hd fl ek ep ev er) ∧ (∀ post : Int32 → SY → Prop, post r v → wY_run_26 post (nI w) (d + 1) c (nI i) (nI np) (nI nd) ls et (nI es) co ca pc ra rb sp mk dp sl lf su ql st pn ss qs qr hd fl fc fa fb fm ek ep ev er) := by
  intro d
  induction d with
  | zero =>
    intro i c nd es ls et co ca pc ra rb sp mk dp fc fa fb fm sl st lf su pg pn ss ql qs qr hd fl ek ep ev er I hsum
    have z : nI w ≤ nI i := nI_le (by omega) (by omega)
    refine ⟨c, (nI np, nI nd, ls, et, nI es, co, ca, pc, ra, rb, sp, mk, dp, fc, fa, fb, fm, sl, st, lf, su, pg, ss, ql, qs, qr, hd, fl, ek, ep, ev, er), (nI np, nI nd, ls, et, nI es, co, ca, pc, ra, rb, sp, mk, dp, sl, lf, su, ql, st, pn, ss, qs, qr, hd, fl, fc, fa, fb, fm, ek, ep, ev, er), sk_mk I, fun post h => ?_, fun post h => ?_⟩
    · rw [wX_run_13]
      exact br_t z h
    · rw [wY_run_26]
      exact br_t z h
  | succ d ih =>
    intro i c nd es ls et co ca pc ra rb sp mk dp fc fa fb fm sl st lf su pg pn ss ql qs qr hd fl ek ep ev er I hsum
    have z : ¬ nI w ≤ nI i := nI_ge (by omega) (by omega)
    obtain ⟨c', nd1, es1, ls1, et1, co1, ca1, pc1, ra1, rb1, sp1, mk1, dp1, fc1, fa1, fb1, fm1, sl1, st1, lf1, su1, pg1, pn1, ss1, ql1, qs1, qr1, hd1, fl1, ek1, ep1, ev1, er1, I1, hX1, hY1⟩ := sk_inner np 0 c nd es ls et co ca pc ra rb sp mk dp fc fa fb fm sl st lf su pg pn ss ql qs qr hd fl ek ep ev er I (by omega)
    obtain ⟨r, u, v, R, hX, hY⟩ := ih (i + 1) c' nd1 es1 ls1 et1 co1 ca1 pc1 ra1 rb1 sp1 mk1 dp1 fc1 fa1 fb1 fm1 sl1 st1 lf1 su1 pg1 pn1 ss1 ql1 qs1 qr1 hd1 fl1 ek1 ep1 ev1 er1 I1 (by omega)
    refine ⟨r, u, v, R, fun post h => ?_, fun post h => ?_⟩
    · rw [wX_run_13]
      refine br_f z ⟨np + 1, hX1 post (wX_run_13 post (nI w) (d + 1)) (nI w) (nI i) ?_⟩
      rw [nI_1 i]
      exact hX post h
    · rw [wY_run_26]
      refine br_f z ⟨np + 1, hY1 post (wY_run_26 post (nI w) (d + 1)) (nI w) (nI i) ?_⟩
      rw [nI_1 i]
      exact hY post h
section
variable {np nd es : Nat} {ls et : Int32} {co ca pc ra rb sp mk dp fc fa fb fm sl st lf su pg pn ss ql qs qr hd fl ek ep ev er : Nat → Int32}
theorem sk_run (v1 : Int32) (I : sk_Inv np nd es pg pn ss dp ql qs hd sl mk fm) : ∃ r u v, sk_Rel np u v ∧ (∀ post : Int32 → SX → Prop, post r u → wpX_run post (nI np, nI nd, ls, et, nI es, co, ca, pc, ra, rb, sp, mk, dp, fc, fa, fb, fm, sl, st, lf, su, pg, ss, ql, qs, qr, hd, fl, ek, ep, ev, er) v1) ∧ (∀ post : Int32 → SY → Prop, post r v → wpY_run post (nI np, nI nd, ls, et, nI es, co, ca, pc, ra, rb, sp, mk, dp, sl, lf, su, ql, st, pn, ss, qs, qr, hd, fl, fc, fa, fb, fm, ek, ep, ev, er) v1) := by
  rcases pk_ix v1 (n := 65) (by decide) with h0 | h0 | ⟨w, hw, rfl⟩
  · obtain ⟨r, u, v, R, hX, hY⟩ := sk_outer (w := 0) (by decide) 0 0 0 nd es ls et co ca pc ra rb sp mk dp fc fa fb fm sl st lf su pg pn ss ql qs qr hd fl ek ep ev er I (by decide)
    have z : ¬ (0 : Int32) ≤ v1 := Int32.not_le.mpr h0
    refine ⟨r, u, v, R, fun post h => ?_, fun post h => ?_⟩
    · unfold wpX_run
      exact br_f z ⟨1, hX post h⟩
    · unfold wpY_run
      exact br_f z ⟨1, hY post h⟩
  · obtain ⟨r, u, v, R, hX, hY⟩ := sk_outer (w := 64) (by decide) 64 0 0 nd es ls et co ca pc ra rb sp mk dp fc fa fb fm sl st lf su pg pn ss ql qs qr hd fl ek ep ev er I (by decide)
    have z : (0 : Int32) ≤ v1 := Int32.le_trans (by decide) h0
    have z2 : ¬ v1 ≤ 64 := Int32.not_le.mpr (Int32.lt_of_lt_of_le (by decide) h0)
    refine ⟨r, u, v, R, fun post h => ?_, fun post h => ?_⟩
    · unfold wpX_run
      exact br_t z (br_f z2 ⟨65, hX post h⟩)
    · unfold wpY_run
      exact br_t z (br_f z2 ⟨65, hY post h⟩)
  · obtain ⟨r, u, v, R, hX, hY⟩ := sk_outer (w := w) (by omega) w 0 0 nd es ls et co ca pc ra rb sp mk dp fc fa fb fm sl st lf su pg pn ss ql qs qr hd fl ek ep ev er I (by omega)
    have z : (0 : Int32) ≤ nI w := nI_pos' (by omega)
    have z2 : nI w ≤ 64 := nI_le (b := 64) (by omega) (by decide)
    refine ⟨r, u, v, R, fun post h => ?_, fun post h => ?_⟩
    · unfold wpX_run
      exact br_t z (br_t z2 ⟨w + 1, hX post h⟩)
    · unfold wpY_run
      exact br_t z (br_t z2 ⟨w + 1, hY post h⟩)
theorem sk_poke (v1 v2 v3 v4 : Int32) (I : sk_Inv np nd es pg pn ss dp ql qs hd sl mk fm) : ∃ r u v, sk_Rel np u v ∧ (∀ post : Int32 → SX → Prop, post r u → wpX_poke post (nI np, nI nd, ls, et, nI es, co, ca, pc, ra, rb, sp, mk, dp, fc, fa, fb, fm, sl, st, lf, su, pg, ss, ql, qs, qr, hd, fl, ek, ep, ev, er) v1 v2 v3 v4) ∧ (∀ post : Int32 → SY → Prop, post r v → wpY_poke post (nI np, nI nd, ls, et, nI es, co, ca, pc, ra, rb, sp, mk, dp, sl, lf, su, ql, st, pn, ss, qs, qr, hd, fl, fc, fa, fb, fm, ek, ep, ev, er) v1 v2 v3 v4) := by
  have hn := sk_I_np I
  rcases pk_ix v1 (n := np) (by omega) with h1 | h1 | ⟨p, hp, rfl⟩
  · refine ⟨-3, (nI np, nI nd, ls, et, nI es, co, ca, pc, ra, rb, sp, mk, dp, fc, fa, fb, fm, sl, st, lf, su, pg, ss, ql, qs, qr, hd, fl, ek, ep, ev, er), (nI np, nI nd, ls, et, nI es, co, ca, pc, ra, rb, sp, mk, dp, sl, lf, su, ql, st, pn, ss, qs, qr, hd, fl, fc, fa, fb, fm, ek, ep, ev, er), sk_mk I, fun post h => ?_, fun post h => ?_⟩
    · unfold wpX_poke
      refine sx_pid0 (Or.inl h1) ?_
      exact br_t rfl h
    · unfold wpY_poke
      exact br_t h1 h
  · refine ⟨-3, (nI np, nI nd, ls, et, nI es, co, ca, pc, ra, rb, sp, mk, dp, fc, fa, fb, fm, sl, st, lf, su, pg, ss, ql, qs, qr, hd, fl, ek, ep, ev, er), (nI np, nI nd, ls, et, nI es, co, ca, pc, ra, rb, sp, mk, dp, sl, lf, su, ql, st, pn, ss, qs, qr, hd, fl, fc, fa, fb, fm, ek, ep, ev, er), sk_mk I, fun post h => ?_, fun post h => ?_⟩
    · unfold wpX_poke
      refine sx_pid0 (Or.inr h1) ?_
      exact br_t rfl h
    · unfold wpY_poke
      exact br_c (fun _ => h) fun _ => br_f (Int32.not_lt.mpr h1) h
  · have c1 : ¬ nI p < 0 := nI_pos (by omega)
    have c2 : nI p < nI np := nI_lt hp (by omega)
    rcases pk_ix v2 (n := 32) (by decide) with h2 | h2 | ⟨c, hc, rfl⟩
    · refine ⟨-22, (nI np, nI nd, ls, et, nI es, co, ca, pc, ra, rb, sp, mk, dp, fc, fa, fb, fm, sl, st, lf, su, pg, ss, ql, qs, qr, hd, fl, ek, ep, ev, er), (nI np, nI nd, ls, et, nI es, co, ca, pc, ra, rb, sp, mk, dp, sl, lf, su, ql, st, pn, ss, qs, qr, hd, fl, fc, fa, fb, fm, ek, ep, ev, er), sk_mk I, fun post h => ?_, fun post h => ?_⟩
      · unfold wpX_poke
        refine sx_pid1 hp hn ?_
        refine br_f (by decide) ?_
        refine sx_cell0 (Or.inl h2) ?_
        exact br_t rfl h
      · unfold wpY_poke
        exact br_f c1 (br_t c2 (br_t h2 h))
    · refine ⟨-22, (nI np, nI nd, ls, et, nI es, co, ca, pc, ra, rb, sp, mk, dp, fc, fa, fb, fm, sl, st, lf, su, pg, ss, ql, qs, qr, hd, fl, ek, ep, ev, er), (nI np, nI nd, ls, et, nI es, co, ca, pc, ra, rb, sp, mk, dp, sl, lf, su, ql, st, pn, ss, qs, qr, hd, fl, fc, fa, fb, fm, ek, ep, ev, er), sk_mk I, fun post h => ?_, fun post h => ?_⟩
      · unfold wpX_poke
        refine sx_pid1 hp hn ?_
        refine br_f (by decide) ?_
        refine sx_cell0 (Or.inr h2) ?_
        exact br_t rfl h
      · unfold wpY_poke
        exact br_f c1 (br_t c2 (br_c (fun _ => h) fun _ => br_t (Int32.lt_of_lt_of_le (by decide) h2) h))
    · have c3 : ¬ nI c < 0 := nI_pos (by omega)
      have c4 : ¬ 31 < nI c := nI_nlt (a := 31) (by omega) (by decide)
      by_cases h3 : v3 < 0
      · refine ⟨-22, (nI np, nI nd, ls, et, nI es, co, ca, pc, ra, rb, sp, mk, dp, fc, fa, fb, fm, sl, st, lf, su, pg, ss, ql, qs, qr, hd, fl, ek, ep, ev, er), (nI np, nI nd, ls, et, nI es, co, ca, pc, ra, rb, sp, mk, dp, sl, lf, su, ql, st, pn, ss, qs, qr, hd, fl, fc, fa, fb, fm, ek, ep, ev, er), sk_mk I, fun post h => ?_, fun post h => ?_⟩
        · unfold wpX_poke
          refine sx_pid1 hp hn ?_
          refine br_f (by decide) ?_
          refine sx_cell1 hc ?_
          exact br_f (by decide) (br_t h3 h)
        · unfold wpY_poke
          exact br_f c1 (br_t c2 (br_f c3 (br_f c4 (br_t h3 h))))
      by_cases h4 : v3 ≤ 15
      · have e3 : vp_in (nI (p * 32 + c)) 128 := vp_in_nI (by omega) (by decide)
        have e4 : (nI (p * 32 + c)).toNatClampNeg = p * 32 + c := nI_clamp (by omega)
        refine ⟨0, (nI np, nI nd, ls, et, nI es, upd co (p * 32 + c) v3, upd ca (p * 32 + c) v4, pc, ra, rb, sp, mk, dp, fc, fa, fb, fm, sl, st, lf, su, pg, ss, ql, qs, qr, hd, fl, ek, ep, ev, er), (nI np, nI nd, ls, et, nI es, upd co (p * 32 + c) v3, upd ca (p * 32 + c) v4, pc, ra, rb, sp, mk, dp, sl, lf, su, ql, st, pn, ss, qs, qr, hd, fl, fc, fa, fb, fm, ek, ep, ev, er), sk_mk I, fun post h => ?_, fun post h => ?_⟩
        · unfold wpX_poke
          refine sx_pid1 hp hn ?_
          refine br_f (by decide) ?_
          refine sx_cell1 hc ?_
          refine br_f (by decide) (br_f h3 (br_t h4 ?_))
          simp only [sk_ix32, e3, e4, true_implies, false_implies, not_true_eq_false, not_false_eq_true, and_true, true_and, forall_eq, implies_true]
          exact h
        · unfold wpY_poke
          refine br_f c1 (br_t c2 (br_f c3 (br_f c4 (br_f h3 (br_t h4 ?_)))))
          simp only [sk_ix32, e3, e4, true_implies, false_implies, not_true_eq_false, not_false_eq_true, and_true, true_and, forall_eq, implies_true]
          exact h
      · refine ⟨-22, (nI np, nI nd, ls, et, nI es, co, ca, pc, ra, rb, sp, mk, dp, fc, fa, fb, fm, sl, st, lf, su, pg, ss, ql, qs, qr, hd, fl, ek, ep, ev, er), (nI np, nI nd, ls, et, nI es, co, ca, pc, ra, rb, sp, mk, dp, sl, lf, su, ql, st, pn, ss, qs, qr, hd, fl, fc, fa, fb, fm, ek, ep, ev, er), sk_mk I, fun post h => ?_, fun post h => ?_⟩
        · unfold wpX_poke
          refine sx_pid1 hp hn ?_
          refine br_f (by decide) ?_
          refine sx_cell1 hc ?_
          exact br_f (by decide) (br_f h3 (br_f h4 h))
        · unfold wpY_poke
          exact br_f c1 (br_t c2 (br_f c3 (br_f c4 (br_f h3 (br_f h4 h)))))
theorem sk_seta (v1 v2 v3 v4 : Int32) (I : sk_Inv np nd es pg pn ss dp ql qs hd sl mk fm) : ∃ r u v, sk_Rel np u v ∧ (∀ post : Int32 → SX → Prop, post r u → wpX_setAction post (nI np, nI nd, ls, et, nI es, co, ca, pc, ra, rb, sp, mk, dp, fc, fa, fb, fm, sl, st, lf, su, pg, ss, ql, qs, qr, hd, fl, ek, ep, ev, er) v1 v2 v3 v4) ∧ (∀ post : Int32 → SY → Prop, post r v → wpY_setAction post (nI np, nI nd, ls, et, nI es, co, ca, pc, ra, rb, sp, mk, dp, sl, lf, su, ql, st, pn, ss, qs, qr, hd, fl, fc, fa, fb, fm, ek, ep, ev, er) v1 v2 v3 v4) := by
  have hn := sk_I_np I
  rcases pk_ix v1 (n := np) (by omega) with h1 | h1 | ⟨p, hp', rfl⟩
  · refine ⟨-3, (nI np, nI nd, ls, et, nI es, co, ca, pc, ra, rb, sp, mk, dp, fc, fa, fb, fm, sl, st, lf, su, pg, ss, ql, qs, qr, hd, fl, ek, ep, ev, er), (nI np, nI nd, ls, et, nI es, co, ca, pc, ra, rb, sp, mk, dp, sl, lf, su, ql, st, pn, ss, qs, qr, hd, fl, fc, fa, fb, fm, ek, ep, ev, er), sk_mk I, fun post h => ?_, fun post h => ?_⟩
    · unfold wpX_setAction
      refine sx_al0 (Or.inl h1) ?_
      exact br_t rfl h
    · unfold wpY_setAction
      exact br_t h1 h
  · refine ⟨-3, (nI np, nI nd, ls, et, nI es, co, ca, pc, ra, rb, sp, mk, dp, fc, fa, fb, fm, sl, st, lf, su, pg, ss, ql, qs, qr, hd, fl, ek, ep, ev, er), (nI np, nI nd, ls, et, nI es, co, ca, pc, ra, rb, sp, mk, dp, sl, lf, su, ql, st, pn, ss, qs, qr, hd, fl, fc, fa, fb, fm, ek, ep, ev, er), sk_mk I, fun post h => ?_, fun post h => ?_⟩
    · unfold wpX_setAction
      refine sx_al0 (Or.inr h1) ?_
      exact br_t rfl h
    · unfold wpY_setAction
      exact br_c (fun _ => h) fun _ => br_t h1 h
  · have hp : p < 4 := by omega
    have e1 : vp_in (nI p) 4 := vp_in_nI hp (by decide)
    have e2 : (nI p).toNatClampNeg = p := nI_clamp (by omega)
    have c1 : ¬ nI p < 0 := nI_pos (by omega)
    have c2 : ¬ nI np ≤ nI p := nI_ge hp' (by omega)
    by_cases hl : lf p = 0
    · rcases sk_cat v2 with hk | ⟨g, h1, hg, h9, h15, rfl⟩
      · refine ⟨-22, (nI np, nI nd, ls, et, nI es, co, ca, pc, ra, rb, sp, mk, dp, fc, fa, fb, fm, sl, st, lf, su, pg, ss, ql, qs, qr, hd, fl, ek, ep, ev, er), (nI np, nI nd, ls, et, nI es, co, ca, pc, ra, rb, sp, mk, dp, sl, lf, su, ql, st, pn, ss, qs, qr, hd, fl, fc, fa, fb, fm, ek, ep, ev, er), sk_mk I, fun post h => sx_seta0 hp' hn hl hk h, fun post h => ?_⟩
        unfold wpY_setAction
        refine br_f c1 (br_f c2 ⟨e1, br_t (by rw [e2]; exact hl) ?_⟩)
        refine sy_ok0 hk ?_
        exact br_t rfl h
      · rcases sk_hd v3 with hx | ⟨n1, n2, hx⟩
        · have hx' : v3 = -2 ∨ v3 = -1 ∨ 0 ≤ v3 := hx.imp_right fun z => z.imp_right fun ⟨j, hj, e⟩ => by rw [e]; exact nI_pos' (by omega)
          have e3 : vp_in (nI (p * 32 + g)) 128 := vp_in_nI (by omega) (by decide)
          have e4 : (nI (p * 32 + g)).toNatClampNeg = p * 32 + g := nI_clamp (by omega)
          refine ⟨hd (p * 32 + g), (nI np, nI nd, ls, et, nI es, co, ca, pc, ra, rb, sp, mk, dp, fc, fa, fb, fm, sl, st, lf, su, pg, ss, ql, qs, qr, upd hd (p * 32 + g) v3, upd fl (p * 32 + g) (v4 &&& 7), ek, ep, ev, er), (nI np, nI nd, ls, et, nI es, co, ca, pc, ra, rb, sp, mk, dp, sl, lf, su, ql, st, pn, ss, qs, qr, upd hd (p * 32 + g) v3, upd fl (p * 32 + g) (v4 &&& 7), fc, fa, fb, fm, ek, ep, ev, er), sk_mk (sk_I_hd hx' I), fun post h => sx_seta1 hp' hn hl h1 hg h9 h15 hx h, fun post h => ?_⟩
          unfold wpY_setAction
          refine br_f c1 (br_f c2 ⟨e1, br_t (by rw [e2]; exact hl) ?_⟩)
          refine sy_ok1 h1 hg h9 h15 hx ?_
          refine br_f (by decide) ?_
          simp only [sk_ix32, e3, e4, true_implies, false_implies, not_true_eq_false, not_false_eq_true, and_true, true_and, forall_eq, implies_true]
          exact h
        · refine ⟨-22, (nI np, nI nd, ls, et, nI es, co, ca, pc, ra, rb, sp, mk, dp, fc, fa, fb, fm, sl, st, lf, su, pg, ss, ql, qs, qr, hd, fl, ek, ep, ev, er), (nI np, nI nd, ls, et, nI es, co, ca, pc, ra, rb, sp, mk, dp, sl, lf, su, ql, st, pn, ss, qs, qr, hd, fl, fc, fa, fb, fm, ek, ep, ev, er), sk_mk I, fun post h => sx_seta2 hp' hn hl h1 hg h9 h15 n1 n2 hx h, fun post h => ?_⟩
          unfold wpY_setAction
          refine br_f c1 (br_f c2 ⟨e1, br_t (by rw [e2]; exact hl) ?_⟩)
          refine sy_ok2 h1 hg h9 h15 n1 n2 hx ?_
          exact br_t rfl h
    · refine ⟨-3, (nI np, nI nd, ls, et, nI es, co, ca, pc, ra, rb, sp, mk, dp, fc, fa, fb, fm, sl, st, lf, su, pg, ss, ql, qs, qr, hd, fl, ek, ep, ev, er), (nI np, nI nd, ls, et, nI es, co, ca, pc, ra, rb, sp, mk, dp, sl, lf, su, ql, st, pn, ss, qs, qr, hd, fl, fc, fa, fb, fm, ek, ep, ev, er), sk_mk I, fun post h => ?_, fun post h => ?_⟩
      · unfold wpX_setAction
        refine sx_al2 hp' hn hl ?_
        exact br_t rfl h
      · unfold wpY_setAction
        exact br_f c1 (br_f c2 ⟨e1, br_f (by rw [e2]; exact hl) h⟩)
end
end
section
section
variable {np nd es : Nat} {ls et : Int32} {co ca pc ra rb sp mk dp fc fa fb fm sl st lf su pg pn ss ql qs qr hd fl ek ep ev er : Nat → Int32}
theorem sk_state (v1 : Int32) (I : sk_Inv np nd es pg pn ss dp ql qs hd sl mk fm) : ∃ r, (∀ post : Int32 → Prop, post r → wpX_state post (nI np, nI nd, ls, et, nI es, co, ca, pc, ra, rb, sp, mk, dp, fc, fa, fb, fm, sl, st, lf, su, pg, ss, ql, qs, qr, hd, fl, ek, ep, ev, er) v1) ∧ (∀ post : Int32 → Prop, post r → wpY_state post (nI np, nI nd, ls, et, nI es, co, ca, pc, ra, rb, sp, mk, dp, sl, lf, su, ql, st, pn, ss, qs, qr, hd, fl, fc, fa, fb, fm, ek, ep, ev, er) v1) := by
  have hn := sk_I_np I
  rcases pk_ix v1 (n := np) (by omega) with h1 | h1 | ⟨p, hp', rfl⟩
  · refine ⟨-1, fun post h => ?_, fun post h => ?_⟩
    · unfold wpX_state
      refine sx_pid0 (Or.inl h1) ?_
      exact br_t rfl h
    · unfold wpY_state
      exact br_t h1 h
  · refine ⟨-1, fun post h => ?_, fun post h => ?_⟩
    · unfold wpX_state
      refine sx_pid0 (Or.inr h1) ?_
      exact br_t rfl h
    · unfold wpY_state
      exact br_c (fun _ => h) fun _ => br_f (Int32.not_lt.mpr h1) h
  · have hp : p < 4 := by omega
    have e1 : vp_in (nI p) 4 := vp_in_nI hp (by decide)
    have c1 : ¬ nI p < 0 := nI_pos (by omega)
    have c2 : nI p < nI np := nI_lt hp' (by omega)
    have key : ∃ r, ∀ post : Int32 → Prop, post r → (vp_in (nI p) 4 ∧ ((((lf (nI p).toNatClampNeg) = 0 → (vp_in (nI p) 4 ∧ ((((st (nI p).toNatClampNeg) = 0 → (vp_in (nI p) 4 ∧ ((((sl (nI p).toNatClampNeg) ≤ 0 → (post 0)) ∧ (¬ (sl (nI p).toNatClampNeg) ≤ 0 → (post 1)))))) ∧ (¬ (st (nI p).toNatClampNeg) = 0 → (post 2)))))) ∧ (¬ (lf (nI p).toNatClampNeg) = 0 → (vp_in (nI p) 4 ∧ (post (lf (nI p).toNatClampNeg))))))) := by
      by_cases y1 : lf (nI p).toNatClampNeg = 0
      · by_cases y2 : st (nI p).toNatClampNeg = 0
        · by_cases y3 : sl (nI p).toNatClampNeg ≤ 0
          · exact ⟨0, fun post h => ⟨e1, br_t y1 ⟨e1, br_t y2 ⟨e1, br_t y3 h⟩⟩⟩⟩
          · exact ⟨1, fun post h => ⟨e1, br_t y1 ⟨e1, br_t y2 ⟨e1, br_f y3 h⟩⟩⟩⟩
        · exact ⟨2, fun post h => ⟨e1, br_t y1 ⟨e1, br_f y2 h⟩⟩⟩
      · exact ⟨_, fun post h => ⟨e1, br_f y1 ⟨e1, h⟩⟩⟩
    obtain ⟨r, hr⟩ := key
    refine ⟨r, fun post h => ?_, fun post h => ?_⟩
    · unfold wpX_state
      refine sx_pid1 hp' hn ?_
      exact br_f (by decide) (hr post h)
    · unfold wpY_state
      exact br_f c1 (br_t c2 (hr post h))
theorem sk_reg (v1 v2 : Int32) (I : sk_Inv np nd es pg pn ss dp ql qs hd sl mk fm) : ∃ r, (∀ post : Int32 → Prop, post r → wpX_reg post (nI np, nI nd, ls, et, nI es, co, ca, pc, ra, rb, sp, mk, dp, fc, fa, fb, fm, sl, st, lf, su, pg, ss, ql, qs, qr, hd, fl, ek, ep, ev, er) v1 v2) ∧ (∀ post : Int32 → Prop, post r → wpY_reg post (nI np, nI nd, ls, et, nI es, co, ca, pc, ra, rb, sp, mk, dp, sl, lf, su, ql, st, pn, ss, qs, qr, hd, fl, fc, fa, fb, fm, ek, ep, ev, er) v1 v2) := by
  have hn := sk_I_np I
  rcases pk_ix v1 (n := np) (by omega) with h1 | h1 | ⟨p, hp', rfl⟩
  · refine ⟨0, fun post h => ?_, fun post h => ?_⟩
    · unfold wpX_reg
      refine sx_pid0 (Or.inl h1) ?_
      exact br_t rfl h
    · unfold wpY_reg
      exact br_t h1 h
  · refine ⟨0, fun post h => ?_, fun post h => ?_⟩
    · unfold wpX_reg
      refine sx_pid0 (Or.inr h1) ?_
      exact br_t rfl h
    · unfold wpY_reg
      exact br_c (fun _ => h) fun _ => br_f (Int32.not_lt.mpr h1) h
  · have hp : p < 4 := by omega
    have e1 : vp_in (nI p) 4 := vp_in_nI hp (by decide)
    have e2 : (nI p).toNatClampNeg = p := nI_clamp (by omega)
    have c1 : ¬ nI p < 0 := nI_pos (by omega)
    have c2 : nI p < nI np := nI_lt hp' (by omega)
    have c3 : ¬ nI np ≤ nI p := nI_ge hp' (by omega)
    rcases pk_ix v2 (n := 10) (by decide) with h2 | h2 | ⟨j, hj, rfl⟩
    · have n0 : ¬ v2 = 0 := fun z => by rw [z] at h2; exact absurd h2 (by decide)
      have n1 : ¬ v2 = 1 := fun z => by rw [z] at h2; exact absurd h2 (by decide)
      have n2 : ¬ v2 = 2 := fun z => by rw [z] at h2; exact absurd h2 (by decide)
      have n3 : ¬ v2 = 3 := fun z => by rw [z] at h2; exact absurd h2 (by decide)
      have n4 : ¬ v2 = 4 := fun z => by rw [z] at h2; exact absurd h2 (by decide)
      have n5 : ¬ v2 = 5 := fun z => by rw [z] at h2; exact absurd h2 (by decide)
      have n6 : ¬ v2 = 6 := fun z => by rw [z] at h2; exact absurd h2 (by decide)
      have n7 : ¬ v2 = 7 := fun z => by rw [z] at h2; exact absurd h2 (by decide)
      have n8 : ¬ v2 = 8 := fun z => by rw [z] at h2; exact absurd h2 (by decide)
      have n9 : ¬ v2 = 9 := fun z => by rw [z] at h2; exact absurd h2 (by decide)
      refine ⟨0, fun post h => ?_, fun post h => ?_⟩
      · unfold wpX_reg
        refine sx_pid1 hp' hn ?_
        exact br_f (by decide) (br_t h2 h)
      · unfold wpY_reg
        exact br_f c1 (br_t c2 (br_f n0 (br_f n1 (br_f n2 (br_f n3 (br_f n4 (br_f n5 (br_f n6 (br_f n7 (br_f n8 (br_f n9 h)))))))))))
    · have n0 : ¬ v2 = 0 := fun z => by rw [z] at h2; exact absurd h2 (by decide)
      have n1 : ¬ v2 = 1 := fun z => by rw [z] at h2; exact absurd h2 (by decide)
      have n2 : ¬ v2 = 2 := fun z => by rw [z] at h2; exact absurd h2 (by decide)
      have n3 : ¬ v2 = 3 := fun z => by rw [z] at h2; exact absurd h2 (by decide)
      have n4 : ¬ v2 = 4 := fun z => by rw [z] at h2; exact absurd h2 (by decide)
      have n5 : ¬ v2 = 5 := fun z => by rw [z] at h2; exact absurd h2 (by decide)
      have n6 : ¬ v2 = 6 := fun z => by rw [z] at h2; exact absurd h2 (by decide)
      have n7 : ¬ v2 = 7 := fun z => by rw [z] at h2; exact absurd h2 (by decide)
      have n8 : ¬ v2 = 8 := fun z => by rw [z] at h2; exact absurd h2 (by decide)
      have n9 : ¬ v2 = 9 := fun z => by rw [z] at h2; exact absurd h2 (by decide)
      refine ⟨0, fun post h => ?_, fun post h => ?_⟩
      · unfold wpX_reg
        refine sx_pid1 hp' hn ?_
        exact br_f (by decide) (br_f (Int32.not_lt.mpr (Int32.le_trans (by decide) h2)) (br_t (Int32.lt_of_lt_of_le (by decide) h2) h))
      · unfold wpY_reg
        exact br_f c1 (br_t c2 (br_f n0 (br_f n1 (br_f n2 (br_f n3 (br_f n4 (br_f n5 (br_f n6 (br_f n7 (br_f n8 (br_f n9 h)))))))))))
    · have hcases : j = 0 ∨ j = 1 ∨ j = 2 ∨ j = 3 ∨ j = 4 ∨ j = 5 ∨ j = 6 ∨ j = 7 ∨ j = 8 ∨ j = 9 := by omega
      rcases hcases with rfl | rfl | rfl | rfl | rfl | rfl | rfl | rfl | rfl | rfl
      · refine ⟨pc p, fun post h => ?_, fun post h => ?_⟩
        · unfold wpX_reg
          refine sx_pid1 hp' hn ?_
          refine br_f (by decide) (br_f (by decide) (br_f (by decide) (br_t rfl ⟨e1, ?_⟩)))
          rw [e2]; exact h
        · unfold wpY_reg
          refine br_f c1 (br_t c2 (br_t rfl ⟨e1, ?_⟩))
          rw [e2]; exact h
      · refine ⟨ra p, fun post h => ?_, fun post h => ?_⟩
        · unfold wpX_reg
          refine sx_pid1 hp' hn ?_
          refine br_f (by decide) (br_f (by decide) (br_f (by decide) (br_f (by decide) (br_t rfl ⟨e1, ?_⟩))))
          rw [e2]; exact h
        · unfold wpY_reg
          refine br_f c1 (br_t c2 (br_f (by decide) (br_t rfl ⟨e1, ?_⟩)))
          rw [e2]; exact h
      · refine ⟨rb p, fun post h => ?_, fun post h => ?_⟩
        · unfold wpX_reg
          refine sx_pid1 hp' hn ?_
          refine br_f (by decide) (br_f (by decide) (br_f (by decide) (br_f (by decide) (br_f (by decide) (br_t rfl ⟨e1, ?_⟩)))))
          rw [e2]; exact h
        · unfold wpY_reg
          refine br_f c1 (br_t c2 (br_f (by decide) (br_f (by decide) (br_t rfl ⟨e1, ?_⟩))))
          rw [e2]; exact h
      · refine ⟨sp p, fun post h => ?_, fun post h => ?_⟩
        · unfold wpX_reg
          refine sx_pid1 hp' hn ?_
          refine br_f (by decide) (br_f (by decide) (br_f (by decide) (br_f (by decide) (br_f (by decide) (br_f (by decide) (br_t rfl ⟨e1, ?_⟩))))))
          rw [e2]; exact h
        · unfold wpY_reg
          refine br_f c1 (br_t c2 (br_f (by decide) (br_f (by decide) (br_f (by decide) (br_t rfl ⟨e1, ?_⟩)))))
          rw [e2]; exact h
      · refine ⟨mk p, fun post h => ?_, fun post h => ?_⟩
        · unfold wpX_reg
          refine sx_pid1 hp' hn ?_
          refine br_f (by decide) (br_f (by decide) (br_f (by decide) (br_f (by decide) (br_f (by decide) (br_f (by decide) (br_f (by decide) (br_t rfl ⟨e1, ?_⟩)))))))
          rw [e2]; exact h
        · unfold wpY_reg
          refine br_f c1 (br_t c2 (br_f (by decide) (br_f (by decide) (br_f (by decide) (br_f (by decide) (br_t rfl ⟨e1, ?_⟩))))))
          rw [e2]; exact h
      · refine ⟨dp p, fun post h => ?_, fun post h => ?_⟩
        · unfold wpX_reg
          refine sx_pid1 hp' hn ?_
          refine br_f (by decide) (br_f (by decide) (br_f (by decide) (br_f (by decide) (br_f (by decide) (br_f (by decide) (br_f (by decide) (br_f (by decide) (br_t rfl ⟨e1, ?_⟩))))))))
          rw [e2]; exact h
        · unfold wpY_reg
          refine br_f c1 (br_t c2 (br_f (by decide) (br_f (by decide) (br_f (by decide) (br_f (by decide) (br_f (by decide) (br_t rfl ⟨e1, ?_⟩)))))))
          rw [e2]; exact h
      · refine ⟨sl p, fun post h => ?_, fun post h => ?_⟩
        · unfold wpX_reg
          refine sx_pid1 hp' hn ?_
          refine br_f (by decide) (br_f (by decide) (br_f (by decide) (br_f (by decide) (br_f (by decide) (br_f (by decide) (br_f (by decide) (br_f (by decide) (br_f (by decide) (br_t rfl ⟨e1, ?_⟩)))))))))
          rw [e2]; exact h
        · unfold wpY_reg
          refine br_f c1 (br_t c2 (br_f (by decide) (br_f (by decide) (br_f (by decide) (br_f (by decide) (br_f (by decide) (br_f (by decide) (br_t rfl ⟨e1, ?_⟩))))))))
          rw [e2]; exact h
      · refine ⟨su p, fun post h => ?_, fun post h => ?_⟩
        · unfold wpX_reg
          refine sx_pid1 hp' hn ?_
          refine br_f (by decide) (br_f (by decide) (br_f (by decide) (br_f (by decide) (br_f (by decide) (br_f (by decide) (br_f (by decide) (br_f (by decide) (br_f (by decide) (br_f (by decide) (br_t rfl ⟨e1, ?_⟩))))))))))
          rw [e2]; exact h
        · unfold wpY_reg
          refine br_f c1 (br_t c2 (br_f (by decide) (br_f (by decide) (br_f (by decide) (br_f (by decide) (br_f (by decide) (br_f (by decide) (br_f (by decide) (br_t rfl ⟨e1, ?_⟩)))))))))
          rw [e2]; exact h
      · obtain ⟨l, hl8, el, _⟩ := I.2.2.2.2.2.2.1 p hp
        refine ⟨sk_orq (pg p) qs (p * 8) l, fun post h => ?_, fun post h => ?_⟩
        · unfold wpX_reg
          refine sx_pid1 hp' hn ?_
          refine br_f (by decide) (br_f (by decide) (br_f (by decide) (br_f (by decide) (br_f (by decide) (br_f (by decide) (br_f (by decide) (br_f (by decide) (br_f (by decide) (br_f (by decide) (br_f (by decide) (br_t rfl ?_)))))))))))
          exact sx_allp hp hl8 el h
        · unfold wpY_reg
          refine br_f c1 (br_t c2 (br_f (by decide) (br_f (by decide) (br_f (by decide) (br_f (by decide) (br_f (by decide) (br_f (by decide) (br_f (by decide) (br_f (by decide) (br_t rfl ?_))))))))))
          exact sy_pb hp hl8 el (I.2.2.2.1 p hp) h
      · refine ⟨ql p, fun post h => ?_, fun post h => ?_⟩
        · unfold wpX_reg
          refine sx_pid1 hp' hn ?_
          refine br_f (by decide) (br_f (by decide) (br_f (by decide) (br_f (by decide) (br_f (by decide) (br_f (by decide) (br_f (by decide) (br_f (by decide) (br_f (by decide) (br_f (by decide) (br_f (by decide) (br_f (by decide) (br_t rfl ⟨e1, ?_⟩))))))))))))
          rw [e2]; exact h
        · unfold wpY_reg
          refine br_f c1 (br_t c2 (br_f (by decide) (br_f (by decide) (br_f (by decide) (br_f (by decide) (br_f (by decide) (br_f (by decide) (br_f (by decide) (br_f (by decide) (br_f (by decide) (br_t rfl ⟨e1, ?_⟩)))))))))))
          rw [e2]; exact h
theorem sk_frame (v1 v2 v3 : Int32) (I : sk_Inv np nd es pg pn ss dp ql qs hd sl mk fm) : ∃ r, (∀ post : Int32 → Prop, post r → wpX_frame post (nI np, nI nd, ls, et, nI es, co, ca, pc, ra, rb, sp, mk, dp, fc, fa, fb, fm, sl, st, lf, su, pg, ss, ql, qs, qr, hd, fl, ek, ep, ev, er) v1 v2 v3) ∧ (∀ post : Int32 → Prop, post r → wpY_frame post (nI np, nI nd, ls, et, nI es, co, ca, pc, ra, rb, sp, mk, dp, sl, lf, su, ql, st, pn, ss, qs, qr, hd, fl, fc, fa, fb, fm, ek, ep, ev, er) v1 v2 v3) := by
  have hn := sk_I_np I
  rcases pk_ix v1 (n := np) (by omega) with h1 | h1 | ⟨p, hp', rfl⟩
  · refine ⟨0, fun post h => ?_, fun post h => ?_⟩
    · unfold wpX_frame
      refine sx_pid0 (Or.inl h1) ?_
      exact br_t rfl h
    · unfold wpY_frame
      exact br_t h1 h
  · refine ⟨0, fun post h => ?_, fun post h => ?_⟩
    · unfold wpX_frame
      refine sx_pid0 (Or.inr h1) ?_
      exact br_t rfl h
    · unfold wpY_frame
      exact br_c (fun _ => h) fun _ => br_t h1 h
  · have hp : p < 4 := by omega
    have e1 : vp_in (nI p) 4 := vp_in_nI hp (by decide)
    have e2 : (nI p).toNatClampNeg = p := nI_clamp (by omega)
    have c1 : ¬ nI p < 0 := nI_pos (by omega)
    have c2 : nI p < nI np := nI_lt hp' (by omega)
    have c3 : ¬ nI np ≤ nI p := nI_ge hp' (by omega)
    obtain ⟨d, hd4, ed⟩ := I.2.2.2.2.2.1 p hp
    rcases pk_ix v2 (n := d) (by omega) with h2 | h2 | ⟨i, hi, rfl⟩
    · refine ⟨0, fun post h => ?_, fun post h => ?_⟩
      · unfold wpX_frame
        refine sx_pid1 hp' hn ?_
        exact br_f (by decide) (br_t h2 h)
      · unfold wpY_frame
        exact br_f c1 (br_f c3 (br_t h2 h))
    · have h2' : ¬ v2 < dp (nI p).toNatClampNeg := by rw [e2, ed]; exact Int32.not_lt.mpr h2
      refine ⟨0, fun post h => ?_, fun post h => ?_⟩
      · unfold wpX_frame
        refine sx_pid1 hp' hn ?_
        exact br_f (by decide) (br_c (fun _ => h) fun _ => ⟨e1, br_f h2' h⟩)
      · unfold wpY_frame
        exact br_f c1 (br_f c3 (br_c (fun _ => h) fun _ => ⟨e1, br_f h2' h⟩))
    · have h2' : nI i < dp (nI p).toNatClampNeg := by rw [e2, ed]; exact nI_lt hi (by omega)
      have h20 : ¬ nI i < 0 := nI_pos (by omega)
      have e3 : vp_in (nI (p * 4 + i)) 16 := vp_in_nI (by omega) (by decide)
      have e4 : (nI (p * 4 + i)).toNatClampNeg = p * 4 + i := nI_clamp (by omega)
      rcases pk_ix v3 (n := 4) (by decide) with h3 | h3 | ⟨j, hj, rfl⟩
      · have n0 : ¬ v3 = 0 := fun z => by rw [z] at h3; exact absurd h3 (by decide)
        have n1 : ¬ v3 = 1 := fun z => by rw [z] at h3; exact absurd h3 (by decide)
        have n2 : ¬ v3 = 2 := fun z => by rw [z] at h3; exact absurd h3 (by decide)
        have n3 : ¬ v3 = 3 := fun z => by rw [z] at h3; exact absurd h3 (by decide)
        refine ⟨0, fun post h => ?_, fun post h => ?_⟩
        · unfold wpX_frame
          refine sx_pid1 hp' hn ?_
          exact br_f (by decide) (br_f h20 ⟨e1, br_t h2' (nm_e (br_t h3 h))⟩)
        · unfold wpY_frame
          exact br_f c1 (br_f c3 (br_f h20 ⟨e1, br_t h2' (nm_e (br_f n0 (br_f n1 (br_f n2 (br_f n3 h)))))⟩))
      · have n0 : ¬ v3 = 0 := fun z => by rw [z] at h3; exact absurd h3 (by decide)
        have n1 : ¬ v3 = 1 := fun z => by rw [z] at h3; exact absurd h3 (by decide)
        have n2 : ¬ v3 = 2 := fun z => by rw [z] at h3; exact absurd h3 (by decide)
        have n3 : ¬ v3 = 3 := fun z => by rw [z] at h3; exact absurd h3 (by decide)
        refine ⟨0, fun post h => ?_, fun post h => ?_⟩
        · unfold wpX_frame
          refine sx_pid1 hp' hn ?_
          exact br_f (by decide) (br_f h20 ⟨e1, br_t h2' (nm_e (br_f (Int32.not_lt.mpr (Int32.le_trans (by decide) h3)) (br_t (Int32.lt_of_lt_of_le (by decide) h3) h)))⟩)
        · unfold wpY_frame
          exact br_f c1 (br_f c3 (br_f h20 ⟨e1, br_t h2' (nm_e (br_f n0 (br_f n1 (br_f n2 (br_f n3 h)))))⟩))
      · have hcases : j = 0 ∨ j = 1 ∨ j = 2 ∨ j = 3 := by omega
        rcases hcases with rfl | rfl | rfl | rfl
        · refine ⟨fc (p * 4 + i), fun post h => ?_, fun post h => ?_⟩
          · unfold wpX_frame
            refine sx_pid1 hp' hn ?_
            refine br_f (by decide) (br_f h20 ⟨e1, br_t h2' (nm_r (sk_ix4 p i) (br_f (by decide) (br_f (by decide) (br_t rfl ⟨e3, ?_⟩))))⟩)
            rw [e4]; exact h
          · unfold wpY_frame
            refine br_f c1 (br_f c3 (br_f h20 ⟨e1, br_t h2' (nm_r (sk_ix4 p i) (br_t rfl ⟨e3, ?_⟩))⟩))
            rw [e4]; exact h
        · refine ⟨fa (p * 4 + i), fun post h => ?_, fun post h => ?_⟩
          · unfold wpX_frame
            refine sx_pid1 hp' hn ?_
            refine br_f (by decide) (br_f h20 ⟨e1, br_t h2' (nm_r (sk_ix4 p i) (br_f (by decide) (br_f (by decide) (br_f (by decide) (br_t rfl ⟨e3, ?_⟩)))))⟩)
            rw [e4]; exact h
          · unfold wpY_frame
            refine br_f c1 (br_f c3 (br_f h20 ⟨e1, br_t h2' (nm_r (sk_ix4 p i) (br_f (by decide) (br_t rfl ⟨e3, ?_⟩)))⟩))
            rw [e4]; exact h
        · refine ⟨fb (p * 4 + i), fun post h => ?_, fun post h => ?_⟩
          · unfold wpX_frame
            refine sx_pid1 hp' hn ?_
            refine br_f (by decide) (br_f h20 ⟨e1, br_t h2' (nm_r (sk_ix4 p i) (br_f (by decide) (br_f (by decide) (br_f (by decide) (br_f (by decide) (br_t rfl ⟨e3, ?_⟩))))))⟩)
            rw [e4]; exact h
          · unfold wpY_frame
            refine br_f c1 (br_f c3 (br_f h20 ⟨e1, br_t h2' (nm_r (sk_ix4 p i) (br_f (by decide) (br_f (by decide) (br_t rfl ⟨e3, ?_⟩))))⟩))
            rw [e4]; exact h
        · refine ⟨fm (p * 4 + i), fun post h => ?_, fun post h => ?_⟩
          · unfold wpX_frame
            refine sx_pid1 hp' hn ?_
            refine br_f (by decide) (br_f h20 ⟨e1, br_t h2' (nm_r (sk_ix4 p i) (br_f (by decide) (br_f (by decide) (br_f (by decide) (br_f (by decide) (br_f (by decide) (br_t rfl ⟨e3, ?_⟩)))))))⟩)
            rw [e4]; exact h
          · unfold wpY_frame
            refine br_f c1 (br_f c3 (br_f h20 ⟨e1, br_t h2' (nm_r (sk_ix4 p i) (br_f (by decide) (br_f (by decide) (br_f (by decide) (br_t rfl ⟨e3, ?_⟩)))))⟩))
            rw [e4]; exact h
theorem sk_queued (v1 v2 v3 : Int32) (I : sk_Inv np nd es pg pn ss dp ql qs hd sl mk fm) : ∃ r, (∀ post : Int32 → Prop, post r → wpX_queued post (nI np, nI nd, ls, et, nI es, co, ca, pc, ra, rb, sp, mk, dp, fc, fa, fb, fm, sl, st, lf, su, pg, ss, ql, qs, qr, hd, fl, ek, ep, ev, er) v1 v2 v3) ∧ (∀ post : Int32 → Prop, post r → wpY_queued post (nI np, nI nd, ls, et, nI es, co, ca, pc, ra, rb, sp, mk, dp, sl, lf, su, ql, st, pn, ss, qs, qr, hd, fl, fc, fa, fb, fm, ek, ep, ev, er) v1 v2 v3) := by
  have hn := sk_I_np I
  rcases pk_ix v1 (n := np) (by omega) with h1 | h1 | ⟨p, hp', rfl⟩
  · refine ⟨0, fun post h => ?_, fun post h => ?_⟩
    · unfold wpX_queued
      refine sx_pid0 (Or.inl h1) ?_
      exact br_t rfl h
    · unfold wpY_queued
      exact br_t h1 h
  · refine ⟨0, fun post h => ?_, fun post h => ?_⟩
    · unfold wpX_queued
      refine sx_pid0 (Or.inr h1) ?_
      exact br_t rfl h
    · unfold wpY_queued
      exact br_c (fun _ => h) fun _ => br_t h1 h
  · have hp : p < 4 := by omega
    have e1 : vp_in (nI p) 4 := vp_in_nI hp (by decide)
    have e2 : (nI p).toNatClampNeg = p := nI_clamp (by omega)
    have c1 : ¬ nI p < 0 := nI_pos (by omega)
    have c2 : nI p < nI np := nI_lt hp' (by omega)
    have c3 : ¬ nI np ≤ nI p := nI_ge hp' (by omega)
    obtain ⟨l, hl8, el, _⟩ := I.2.2.2.2.2.2.1 p hp
    rcases pk_ix v2 (n := l) (by omega) with h2 | h2 | ⟨i, hi, rfl⟩
    · refine ⟨0, fun post h => ?_, fun post h => ?_⟩
      · unfold wpX_queued
        refine sx_pid1 hp' hn ?_
        exact br_f (by decide) (br_t h2 h)
      · unfold wpY_queued
        exact br_f c1 (br_f c3 (br_t h2 h))
    · have h2' : ¬ v2 < ql (nI p).toNatClampNeg := by rw [e2, el]; exact Int32.not_lt.mpr h2
      refine ⟨0, fun post h => ?_, fun post h => ?_⟩
      · unfold wpX_queued
        refine sx_pid1 hp' hn ?_
        exact br_f (by decide) (br_c (fun _ => h) fun _ => ⟨e1, br_f h2' h⟩)
      · unfold wpY_queued
        exact br_f c1 (br_f c3 (br_c (fun _ => h) fun _ => ⟨e1, br_f h2' h⟩))
    · have h2' : nI i < ql (nI p).toNatClampNeg := by rw [e2, el]; exact nI_lt hi (by omega)
      have h20 : ¬ nI i < 0 := nI_pos (by omega)
      have e3 : vp_in (nI p * 8 + nI i) 32 := by rw [sk_ix8]; exact vp_in_nI (by omega) (by decide)
      by_cases f0 : v3 = 0
      · refine ⟨qs (nI p * 8 + nI i).toNatClampNeg, fun post h => ?_, fun post h => ?_⟩
        · unfold wpX_queued
          refine sx_pid1 hp' hn ?_
          exact br_f (by decide) (br_f h20 ⟨e1, br_t h2' (nm_e (br_t f0 ⟨e3, h⟩))⟩)
        · unfold wpY_queued
          exact br_f c1 (br_f c3 (br_f h20 ⟨e1, br_t h2' (br_t f0 ⟨e3, h⟩)⟩))
      by_cases f1 : v3 = 1
      · refine ⟨qr (nI p * 8 + nI i).toNatClampNeg, fun post h => ?_, fun post h => ?_⟩
        · unfold wpX_queued
          refine sx_pid1 hp' hn ?_
          exact br_f (by decide) (br_f h20 ⟨e1, br_t h2' (nm_e (br_f f0 (br_t f1 ⟨e3, h⟩)))⟩)
        · unfold wpY_queued
          exact br_f c1 (br_f c3 (br_f h20 ⟨e1, br_t h2' (br_f f0 (br_t f1 ⟨e3, h⟩))⟩))
      refine ⟨0, fun post h => ?_, fun post h => ?_⟩
      · unfold wpX_queued
        refine sx_pid1 hp' hn ?_
        exact br_f (by decide) (br_f h20 ⟨e1, br_t h2' (nm_e (br_f f0 (br_f f1 h)))⟩)
      · unfold wpY_queued
        exact br_f c1 (br_f c3 (br_f h20 ⟨e1, br_t h2' (br_f f0 (br_f f1 h))⟩))
theorem sk_pendingSerial (v1 v2 : Int32) (I : sk_Inv np nd es pg pn ss dp ql qs hd sl mk fm) : ∃ r, (∀ post : Int32 → Prop, post r → wpX_pendingSerial post (nI np, nI nd, ls, et, nI es, co, ca, pc, ra, rb, sp, mk, dp, fc, fa, fb, fm, sl, st, lf, su, pg, ss, ql, qs, qr, hd, fl, ek, ep, ev, er) v1 v2) ∧ (∀ post : Int32 → Prop, post r → wpY_pendingSerial post (nI np, nI nd, ls, et, nI es, co, ca, pc, ra, rb, sp, mk, dp, sl, lf, su, ql, st, pn, ss, qs, qr, hd, fl, fc, fa, fb, fm, ek, ep, ev, er) v1 v2) := by
  have hn := sk_I_np I
  rcases pk_ix v1 (n := np) (by omega) with h1 | h1 | ⟨p, hp', rfl⟩
  · refine ⟨0, fun post h => ?_, fun post h => ?_⟩
    · unfold wpX_pendingSerial
      refine sx_pid0 (Or.inl h1) ?_
      exact br_t rfl h
    · unfold wpY_pendingSerial
      exact br_t h1 h
  · refine ⟨0, fun post h => ?_, fun post h => ?_⟩
    · unfold wpX_pendingSerial
      refine sx_pid0 (Or.inr h1) ?_
      exact br_t rfl h
    · unfold wpY_pendingSerial
      exact br_c (fun _ => h) fun _ => br_t h1 h
  · have hp : p < 4 := by omega
    have e1 : vp_in (nI p) 4 := vp_in_nI hp (by decide)
    have e2 : (nI p).toNatClampNeg = p := nI_clamp (by omega)
    have c1 : ¬ nI p < 0 := nI_pos (by omega)
    have c2 : nI p < nI np := nI_lt hp' (by omega)
    have c3 : ¬ nI np ≤ nI p := nI_ge hp' (by omega)
    rcases pk_ix v2 (n := 16) (by decide) with h2 | h2 | ⟨g, hg, rfl⟩
    · have h2' : v2 < 1 := Int32.lt_trans h2 (by decide)
      refine ⟨0, fun post h => ?_, fun post h => ?_⟩
      · unfold wpX_pendingSerial
        refine sx_pid1 hp' hn ?_
        exact br_f (by decide) (br_t h2' h)
      · unfold wpY_pendingSerial
        exact br_f c1 (br_f c3 (br_t h2' h))
    · have h2' : ¬ v2 < 16 := Int32.not_lt.mpr h2
      have h3' : ¬ v2 ≤ 15 := Int32.not_le.mpr (Int32.lt_of_lt_of_le (by decide) h2)
      refine ⟨0, fun post h => ?_, fun post h => ?_⟩
      · unfold wpX_pendingSerial
        refine sx_pid1 hp' hn ?_
        exact br_f (by decide) (br_c (fun _ => h) fun _ => br_f h2' h)
      · unfold wpY_pendingSerial
        exact br_f c1 (br_f c3 (br_c (fun _ => h) fun _ => br_f h3' h))
    · by_cases g0 : g = 0
      · subst g0
        refine ⟨0, fun post h => ?_, fun post h => ?_⟩
        · unfold wpX_pendingSerial
          refine sx_pid1 hp' hn ?_
          exact br_f (by decide) (br_t (by decide) h)
        · unfold wpY_pendingSerial
          exact br_f c1 (br_f c3 (br_t (by decide) h))
      · have b1 : ¬ nI g < 1 := nI_nlt (b := 1) (by omega) (by omega)
        have b2 : nI g < 16 := nI_lt (b := 16) hg (by decide)
        have b3 : nI g ≤ 15 := nI_le (b := 15) (by omega) (by decide)
        have e3 : vp_in (nI p * 16 + nI g) 64 := by rw [sk_ix16]; exact vp_in_nI (by omega) (by decide)
        have e4 : (nI p * 16 + nI g).toNatClampNeg = p * 16 + g := by rw [sk_ix16]; exact nI_clamp (by omega)
        refine ⟨ss (p * 16 + g), fun post h => ?_, fun post h => ?_⟩
        · unfold wpX_pendingSerial
          refine sx_pid1 hp' hn ?_
          refine br_f (by decide) (br_f b1 (br_t b2 ⟨e3, ?_⟩))
          rw [e4]; exact h
        · unfold wpY_pendingSerial
          refine br_f c1 (br_f c3 (br_f b1 (br_t b3 ⟨e3, ?_⟩)))
          rw [e4]
          refine br_c (fun z => ?_) fun _ => ⟨e3, h⟩
          rw [I.2.2.2.2.1 _ z] at h
          exact h
theorem sk_getAction (v1 v2 v3 : Int32) (I : sk_Inv np nd es pg pn ss dp ql qs hd sl mk fm) : ∃ r, (∀ post : Int32 → Prop, post r → wpX_getAction post (nI np, nI nd, ls, et, nI es, co, ca, pc, ra, rb, sp, mk, dp, fc, fa, fb, fm, sl, st, lf, su, pg, ss, ql, qs, qr, hd, fl, ek, ep, ev, er) v1 v2 v3) ∧ (∀ post : Int32 → Prop, post r → wpY_getAction post (nI np, nI nd, ls, et, nI es, co, ca, pc, ra, rb, sp, mk, dp, sl, lf, su, ql, st, pn, ss, qs, qr, hd, fl, fc, fa, fb, fm, ek, ep, ev, er) v1 v2 v3) := by
  have hn := sk_I_np I
  rcases pk_ix v1 (n := np) (by omega) with h1 | h1 | ⟨p, hp', rfl⟩
  · refine ⟨0, fun post h => ?_, fun post h => ?_⟩
    · unfold wpX_getAction
      refine sx_pid0 (Or.inl h1) ?_
      exact br_t rfl h
    · unfold wpY_getAction
      exact br_t h1 h
  · refine ⟨0, fun post h => ?_, fun post h => ?_⟩
    · unfold wpX_getAction
      refine sx_pid0 (Or.inr h1) ?_
      exact br_t rfl h
    · unfold wpY_getAction
      exact br_c (fun _ => h) fun _ => br_t h1 h
  · have hp : p < 4 := by omega
    have e1 : vp_in (nI p) 4 := vp_in_nI hp (by decide)
    have e2 : (nI p).toNatClampNeg = p := nI_clamp (by omega)
    have c1 : ¬ nI p < 0 := nI_pos (by omega)
    have c2 : nI p < nI np := nI_lt hp' (by omega)
    have c3 : ¬ nI np ≤ nI p := nI_ge hp' (by omega)
    rcases sk_sig v2 with hx | ⟨g, h1, hg, rfl⟩
    · refine ⟨0, fun post h => ?_, fun post h => ?_⟩
      · unfold wpX_getAction
        refine sx_pid1 hp' hn ?_
        refine br_f (by decide) ?_
        refine sx_sig0 hx ?_
        exact br_t rfl h
      · unfold wpY_getAction
        exact br_f c1 (br_f c3 (br_c (fun _ => h) fun z => br_f (Int32.not_le.mpr (hx.resolve_left z)) h))
    · have b1 : ¬ nI g < 1 := nI_nlt (b := 1) h1 (by omega)
      have b2 : nI g ≤ 31 := nI_le (b := 31) (by omega) (by decide)
      have e3 : vp_in (nI p * 32 + nI g) 128 := by rw [sk_ix32]; exact vp_in_nI (by omega) (by decide)
      by_cases f0 : v3 = 0
      · refine ⟨hd (nI p * 32 + nI g).toNatClampNeg, fun post h => ?_, fun post h => ?_⟩
        · unfold wpX_getAction
          refine sx_pid1 hp' hn ?_
          refine br_f (by decide) ?_
          refine sx_sig1 h1 hg ?_
          exact br_f (by decide) (nm_e (br_t f0 ⟨e3, h⟩))
        · unfold wpY_getAction
          exact br_f c1 (br_f c3 (br_f b1 (br_t b2 (br_t f0 ⟨e3, h⟩))))
      by_cases f1 : v3 = 1
      · refine ⟨fl (nI p * 32 + nI g).toNatClampNeg, fun post h => ?_, fun post h => ?_⟩
        · unfold wpX_getAction
          refine sx_pid1 hp' hn ?_
          refine br_f (by decide) ?_
          refine sx_sig1 h1 hg ?_
          exact br_f (by decide) (nm_e (br_f f0 (br_t f1 ⟨e3, h⟩)))
        · unfold wpY_getAction
          exact br_f c1 (br_f c3 (br_f b1 (br_t b2 (br_f f0 (br_t f1 ⟨e3, h⟩)))))
      refine ⟨0, fun post h => ?_, fun post h => ?_⟩
      · unfold wpX_getAction
        refine sx_pid1 hp' hn ?_
        refine br_f (by decide) ?_
        refine sx_sig1 h1 hg ?_
        exact br_f (by decide) (nm_e (br_f f0 (br_f f1 h)))
      · unfold wpY_getAction
        exact br_f c1 (br_f c3 (br_f b1 (br_t b2 (br_f f0 (br_f f1 h)))))
theorem sk_logField (v1 v2 : Int32) (I : sk_Inv np nd es pg pn ss dp ql qs hd sl mk fm) : ∃ r, (∀ post : Int32 → Prop, post r → wpX_logField post (nI np, nI nd, ls, et, nI es, co, ca, pc, ra, rb, sp, mk, dp, fc, fa, fb, fm, sl, st, lf, su, pg, ss, ql, qs, qr, hd, fl, ek, ep, ev, er) v1 v2) ∧ (∀ post : Int32 → Prop, post r → wpY_logField post (nI np, nI nd, ls, et, nI es, co, ca, pc, ra, rb, sp, mk, dp, sl, lf, su, ql, st, pn, ss, qs, qr, hd, fl, fc, fa, fb, fm, ek, ep, ev, er) v1 v2) := by
  have hs := sk_I_es I
  rcases pk_ix v1 (n := es) (by omega) with h1 | h1 | ⟨i, hi, rfl⟩
  · refine ⟨0, fun post h => ?_, fun post h => ?_⟩
    · unfold wpX_logField
      exact br_t h1 h
    · unfold wpY_logField
      exact br_t h1 h
  · refine ⟨0, fun post h => ?_, fun post h => ?_⟩
    · unfold wpX_logField
      exact br_c (fun _ => h) fun _ => br_f (Int32.not_lt.mpr h1) h
    · unfold wpY_logField
      exact br_c (fun _ => h) fun _ => br_f (Int32.not_lt.mpr h1) h
  · have c1 : ¬ nI i < 0 := nI_pos (by omega)
    have c2 : nI i < nI es := nI_lt hi (by omega)
    have e3 : vp_in (nI i) 128 := vp_in_nI (by omega) (by decide)
    rcases pk_ix v2 (n := 4) (by decide) with h2 | h2 | ⟨j, hj, rfl⟩
    · have n0 : ¬ v2 = 0 := fun z => by rw [z] at h2; exact absurd h2 (by decide)
      have n1 : ¬ v2 = 1 := fun z => by rw [z] at h2; exact absurd h2 (by decide)
      have n2 : ¬ v2 = 2 := fun z => by rw [z] at h2; exact absurd h2 (by decide)
      have n3 : ¬ v2 = 3 := fun z => by rw [z] at h2; exact absurd h2 (by decide)
      refine ⟨0, fun post h => ?_, fun post h => ?_⟩
      · unfold wpX_logField
        exact br_f c1 (br_t c2 (br_t h2 h))
      · unfold wpY_logField
        exact br_f c1 (br_t c2 (br_f n0 (br_f n1 (br_f n2 (br_f n3 h)))))
    · have n0 : ¬ v2 = 0 := fun z => by rw [z] at h2; exact absurd h2 (by decide)
      have n1 : ¬ v2 = 1 := fun z => by rw [z] at h2; exact absurd h2 (by decide)
      have n2 : ¬ v2 = 2 := fun z => by rw [z] at h2; exact absurd h2 (by decide)
      have n3 : ¬ v2 = 3 := fun z => by rw [z] at h2; exact absurd h2 (by decide)
      refine ⟨0, fun post h => ?_, fun post h => ?_⟩
      · unfold wpX_logField
        exact br_f c1 (br_t c2 (br_f (Int32.not_lt.mpr (Int32.le_trans (by decide) h2)) (br_t (Int32.lt_of_lt_of_le (by decide) h2) h)))
      · unfold wpY_logField
        exact br_f c1 (br_t c2 (br_f n0 (br_f n1 (br_f n2 (br_f n3 h)))))
    · have hcases : j = 0 ∨ j = 1 ∨ j = 2 ∨ j = 3 := by omega
      rcases hcases with rfl | rfl | rfl | rfl
      · refine ⟨ek (nI i).toNatClampNeg, fun post h => ?_, fun post h => ?_⟩
        · unfold wpX_logField
          exact br_f c1 (br_t c2 (br_f (by decide) (br_f (by decide) (br_t rfl ⟨e3, h⟩))))
        · unfold wpY_logField
          exact br_f c1 (br_t c2 (br_t rfl ⟨e3, h⟩))
      · refine ⟨ep (nI i).toNatClampNeg, fun post h => ?_, fun post h => ?_⟩
        · unfold wpX_logField
          exact br_f c1 (br_t c2 (br_f (by decide) (br_f (by decide) (br_f (by decide) (br_t rfl ⟨e3, h⟩)))))
        · unfold wpY_logField
          exact br_f c1 (br_t c2 (br_f (by decide) (br_t rfl ⟨e3, h⟩)))
      · refine ⟨ev (nI i).toNatClampNeg, fun post h => ?_, fun post h => ?_⟩
        · unfold wpX_logField
          exact br_f c1 (br_t c2 (br_f (by decide) (br_f (by decide) (br_f (by decide) (br_f (by decide) (br_t rfl ⟨e3, h⟩))))))
        · unfold wpY_logField
          exact br_f c1 (br_t c2 (br_f (by decide) (br_f (by decide) (br_t rfl ⟨e3, h⟩))))
      · refine ⟨er (nI i).toNatClampNeg, fun post h => ?_, fun post h => ?_⟩
        · unfold wpX_logField
          exact br_f c1 (br_t c2 (br_f (by decide) (br_f (by decide) (br_f (by decide) (br_f (by decide) (br_f (by decide) (br_t rfl ⟨e3, h⟩)))))))
        · unfold wpY_logField
          exact br_f c1 (br_t c2 (br_f (by decide) (br_f (by decide) (br_f (by decide) (br_t rfl ⟨e3, h⟩)))))
theorem sx_i274 {post : SX → Prop} {f : Nat → Int32} (h : post (nI np, nI nd, ls, et, nI es, co, ca, pc, ra, rb, sp, mk, dp, fc, fa, fb, fm, sl, st, lf, su, pg, ss, ql, qs, qr, sk_fill f (-1) 128, fl, ek, ep, ev, er)) : ∀ d i, i + d = 128 → wX_init_274 post (nI np) (nI nd) ls et (nI es) (d + 1) (nI i) co ca pc ra rb sp mk dp fc fa fb fm sl st lf su pg ss ql qs qr (sk_fill f (-1) i) fl ek ep ev er := by
  intro d
  induction d with
  | zero =>
    intro i hi
    have hi' : i = 128 := by omega
    subst hi'
    rw [wX_init_274]
    exact br_t (by decide) h
  | succ d ih =>
    intro i hi
    have z : ¬ (128 : Int32) ≤ nI i := nI_ge (b := 128) (by omega) (by decide)
    rw [wX_init_274]
    refine br_f z ⟨vp_in_nI (by omega) (by decide), nm_r (by rw [nI_clamp (by omega)]) (nm_r (nI_1 i) ?_)⟩
    exact ih (i + 1) (by omega)
theorem sx_i253 {post : SX → Prop} {f g : Nat → Int32} (h : post (nI np, nI nd, ls, et, nI es, co, ca, pc, ra, rb, sk_fill g 64 4, mk, dp, fc, fa, fb, fm, sl, st, lf, su, pg, ss, ql, qs, qr, sk_fill f (-1) 128, fl, ek, ep, ev, er)) : ∀ d i, i + d = 4 → wX_init_253 post (nI np) (nI nd) ls et (nI es) (d + 1) (nI i) co ca pc ra rb (sk_fill g 64 i) mk dp fc fa fb fm sl st lf su pg ss ql qs qr f fl ek ep ev er := by
  intro d
  induction d with
  | zero =>
    intro i hi
    have hi' : i = 4 := by omega
    subst hi'
    rw [wX_init_253]
    exact br_t (by decide) ⟨129, sx_i274 h 128 0 rfl⟩
  | succ d ih =>
    intro i hi
    have z : ¬ (4 : Int32) ≤ nI i := nI_ge (b := 4) (by omega) (by decide)
    rw [wX_init_253]
    refine br_f z ⟨vp_in_nI (by omega) (by decide), nm_r (by rw [nI_clamp (by omega)]) (nm_r (nI_1 i) ?_)⟩
    exact ih (i + 1) (by omega)
theorem sy_i287 {post : SY → Prop} {g : Nat → Int32} (h : post (nI np, nI nd, ls, et, nI es, co, ca, pc, ra, rb, sk_fill g 64 4, mk, dp, sl, lf, su, ql, st, pn, ss, qs, qr, hd, fl, fc, fa, fb, fm, ek, ep, ev, er)) : ∀ d i, i + d = 4 → wY_init_287 post (nI np) (nI nd) ls et (nI es) (d + 1) (nI i) co ca pc ra rb (sk_fill g 64 i) mk dp sl lf su ql st pn ss qs qr hd fl fc fa fb fm ek ep ev er := by
  intro d
  induction d with
  | zero =>
    intro i hi
    have hi' : i = 4 := by omega
    subst hi'
    rw [wY_init_287]
    exact br_t (by decide) h
  | succ d ih =>
    intro i hi
    have z : ¬ (4 : Int32) ≤ nI i := nI_ge (b := 4) (by omega) (by decide)
    rw [wY_init_287]
    refine br_f z ⟨vp_in_nI (by omega) (by decide), nm_r (by rw [nI_clamp (by omega)]) (nm_r (nI_1 i) ?_)⟩
    exact ih (i + 1) (by omega)
theorem sy_i265 {post : SY → Prop} {f g : Nat → Int32} (h : post (nI np, nI nd, ls, et, nI es, co, ca, pc, ra, rb, sk_fill g 64 4, mk, dp, sl, lf, su, ql, st, pn, ss, qs, qr, sk_fill f (-1) 128, fl, fc, fa, fb, fm, ek, ep, ev, er)) : ∀ d i, i + d = 128 → wY_init_265 post (nI np) (nI nd) ls et (nI es) (d + 1) (nI i) co ca pc ra rb g mk dp sl lf su ql st pn ss qs qr (sk_fill f (-1) i) fl fc fa fb fm ek ep ev er := by
  intro d
  induction d with
  | zero =>
    intro i hi
    have hi' : i = 128 := by omega
    subst hi'
    rw [wY_init_265]
    exact br_t (by decide) ⟨5, sy_i287 h 4 0 rfl⟩
  | succ d ih =>
    intro i hi
    have z : ¬ (128 : Int32) ≤ nI i := nI_ge (b := 128) (by omega) (by decide)
    rw [wY_init_265]
    refine br_f z ⟨vp_in_nI (by omega) (by decide), nm_r (by rw [nI_clamp (by omega)]) (nm_r (nI_1 i) ?_)⟩
    exact ih (i + 1) (by omega)
end
theorem sk_clamp (x : Int32) : ∃ n, 1 ≤ n ∧ n ≤ 4 ∧ ∀ post : Int32 → Prop, post (nI n) → wpX_clamp post x 1 4 := by
  rcases pk_ix x (n := 5) (by decide) with h | h | ⟨j, hj, rfl⟩
  · exact ⟨1, by decide, by decide, fun post hp => br_f (Int32.not_le.mpr (Int32.lt_trans h (by decide))) hp⟩
  · exact ⟨4, by decide, by decide, fun post hp => br_t (Int32.le_trans (by decide) h) (br_f (Int32.not_le.mpr (Int32.lt_of_lt_of_le (by decide) h)) hp)⟩
  · by_cases z : j = 0
    · subst z
      exact ⟨1, by decide, by decide, fun post hp => br_f (by decide) hp⟩
    · exact ⟨j, by omega, by omega, fun post hp => br_t (nI_le (a := 1) (by omega) (by omega)) (br_t (nI_le (b := 4) (by omega) (by decide)) hp)⟩
end
section
theorem i_vc0 (k0 : Int32) (k1 : Int32) : wpX_init (fun u => wpY_init (fun v => i_Rel 2 u v) k0 k1) k0 k1 := by
  obtain ⟨n0, a1, a2, h0⟩ := sk_clamp k0
  obtain ⟨n1, b1, b2, h1⟩ := sk_clamp k1
  unfold wpX_init
  refine h0 _ ?_
  refine h1 _ ?_
  refine ⟨5, sx_i253 (np := n0) (nd := n1) (es := 0) ?_ 4 0 rfl⟩
  unfold wpY_init
  refine h0 (fun z => wY_init_237 _ k1 z 0 0 0 0 0 (fun _ => 0) (fun _ => 0) (fun _ => 0) (fun _ => 0) (fun _ => 0) (fun _ => 0) (fun _ => 0) (fun _ => 0) (fun _ => 0) (fun _ => 0) (fun _ => 0) (fun _ => 0) (fun _ => 0) (fun _ => 0) (fun _ => 0) (fun _ => 0) (fun _ => 0) (fun _ => 0) (fun _ => 0) (fun _ => 0) (fun _ => 0) (fun _ => 0) (fun _ => 0) (fun _ => 0) (fun _ => 0) (fun _ => 0) (fun _ => 0)) ?_
  unfold wY_init_237
  refine h1 (fun z => ∃ n265 : Nat, wY_init_265 _ (nI n0) z 0 0 0 n265 0 (fun _ => 0) (fun _ => 0) (fun _ => 0) (fun _ => 0) (fun _ => 0) (fun _ => 0) (fun _ => 0) (fun _ => 0) (fun _ => 0) (fun _ => 0) (fun _ => 0) (fun _ => 0) (fun _ => 0) (fun _ => 0) (fun _ => 0) (fun _ => 0) (fun _ => 0) (fun _ => 0) (fun _ => 0) (fun _ => 0) (fun _ => 0) (fun _ => 0) (fun _ => 0) (fun _ => 0) (fun _ => 0) (fun _ => 0) (fun _ => 0)) ?_
  refine ⟨129, sy_i265 (np := n0) (nd := n1) (es := 0) ?_ 128 0 rfl⟩
  exact ⟨n0, sk_mk (sk_inv0 a1 a2 b1 b2)⟩
theorem i_vc_poke {k : Nat} {u : SX} {v : SY} (I : i_Rel k u v) (hk : k + 5 ≤ 2562) (v1 : Int32) (v2 : Int32) (v3 : Int32) (v4 : Int32) : wpX_poke (fun r u' => wpY_poke (fun r' v' => r' = r ∧ i_Rel (k + 5) u' v') v v1 v2 v3 v4) u v1 v2 v3 v4 := by
  obtain ⟨np, nd, es, ls, et, co, ca, pc, ra, rb, sp, mk, dp, fc, fa, fb, fm, sl, st, lf, su, pg, pn, ss, ql, qs, qr, hd, fl, ek, ep, ev, er, rfl, rfl, I⟩ := I
  obtain ⟨r, u, v, R, hX, hY⟩ := sk_poke v1 v2 v3 v4 I
  exact hX _ (hY _ ⟨rfl, np, R⟩)
theorem i_vc_setAction {k : Nat} {u : SX} {v : SY} (I : i_Rel k u v) (hk : k + 5 ≤ 2562) (v1 : Int32) (v2 : Int32) (v3 : Int32) (v4 : Int32) : wpX_setAction (fun r u' => wpY_setAction (fun r' v' => r' = r ∧ i_Rel (k + 5) u' v') v v1 v2 v3 v4) u v1 v2 v3 v4 := by
  obtain ⟨np, nd, es, ls, et, co, ca, pc, ra, rb, sp, mk, dp, fc, fa, fb, fm, sl, st, lf, su, pg, pn, ss, ql, qs, qr, hd, fl, ek, ep, ev, er, rfl, rfl, I⟩ := I
  obtain ⟨r, u, v, R, hX, hY⟩ := sk_seta v1 v2 v3 v4 I
  exact hX _ (hY _ ⟨rfl, np, R⟩)
theorem i_vc_run {k : Nat} {u : SX} {v : SY} (I : i_Rel k u v) (hk : k + 5 ≤ 2562) (v1 : Int32) : wpX_run (fun r u' => wpY_run (fun r' v' => r' = r ∧ i_Rel (k + 5) u' v') v v1) u v1 := by
  obtain ⟨np, nd, es, ls, et, co, ca, pc, ra, rb, sp, mk, dp, fc, fa, fb, fm, sl, st, lf, su, pg, pn, ss, ql, qs, qr, hd, fl, ek, ep, ev, er, rfl, rfl, I⟩ := I
  obtain ⟨r, u, v, R, hX, hY⟩ := sk_run v1 I
  exact hX _ (hY _ ⟨rfl, np, R⟩)
theorem i_vc_send {k : Nat} {u : SX} {v : SY} (I : i_Rel k u v) (hk : k + 5 ≤ 2562) (v1 : Int32) (v2 : Int32) : wpX_send (fun r u' => wpY_send (fun r' v' => r' = r ∧ i_Rel (k + 5) u' v') v v1 v2) u v1 v2 := by
  obtain ⟨np, nd, es, ls, et, co, ca, pc, ra, rb, sp, mk, dp, fc, fa, fb, fm, sl, st, lf, su, pg, pn, ss, ql, qs, qr, hd, fl, ek, ep, ev, er, rfl, rfl, I⟩ := I
  obtain ⟨r, u, v, R, hX, hY⟩ := sk_send v1 v2 I
  obtain ⟨nd1, es1, ls1, et1, co1, ca1, pc1, ra1, rb1, sp1, mk1, dp1, fc1, fa1, fb1, fm1, sl1, st1, lf1, su1, pg1, pn1, ss1, ql1, qs1, qr1, hd1, fl1, ek1, ep1, ev1, er1, rfl, rfl, I1⟩ := R
  refine hX _ ?_
  unfold wpY_send
  refine hY _ ?_
  exact ⟨rfl, np, sk_mk I1⟩
theorem i_vc_state {k : Nat} {u : SX} {v : SY} (I : i_Rel k u v) (hk : k + 5 ≤ 2562) (v1 : Int32) : wpX_state (fun r => wpY_state (fun r' => r' = r ∧ i_Rel (k + 5) u v) v v1) u v1 := by
  obtain ⟨np, nd, es, ls, et, co, ca, pc, ra, rb, sp, mk, dp, fc, fa, fb, fm, sl, st, lf, su, pg, pn, ss, ql, qs, qr, hd, fl, ek, ep, ev, er, rfl, rfl, I⟩ := I
  obtain ⟨r, hX, hY⟩ := sk_state v1 I
  exact hX _ (hY _ ⟨rfl, np, sk_mk I⟩)
theorem i_vc_reg {k : Nat} {u : SX} {v : SY} (I : i_Rel k u v) (hk : k + 5 ≤ 2562) (v1 : Int32) (v2 : Int32) : wpX_reg (fun r => wpY_reg (fun r' => r' = r ∧ i_Rel (k + 5) u v) v v1 v2) u v1 v2 := by
  obtain ⟨np, nd, es, ls, et, co, ca, pc, ra, rb, sp, mk, dp, fc, fa, fb, fm, sl, st, lf, su, pg, pn, ss, ql, qs, qr, hd, fl, ek, ep, ev, er, rfl, rfl, I⟩ := I
  obtain ⟨r, hX, hY⟩ := sk_reg v1 v2 I
  exact hX _ (hY _ ⟨rfl, np, sk_mk I⟩)
theorem i_vc_frame {k : Nat} {u : SX} {v : SY} (I : i_Rel k u v) (hk : k + 5 ≤ 2562) (v1 : Int32) (v2 : Int32) (v3 : Int32) : wpX_frame (fun r => wpY_frame (fun r' => r' = r ∧ i_Rel (k + 5) u v) v v1 v2 v3) u v1 v2 v3 := by
  obtain ⟨np, nd, es, ls, et, co, ca, pc, ra, rb, sp, mk, dp, fc, fa, fb, fm, sl, st, lf, su, pg, pn, ss, ql, qs, qr, hd, fl, ek, ep, ev, er, rfl, rfl, I⟩ := I
  obtain ⟨r, hX, hY⟩ := sk_frame v1 v2 v3 I
  exact hX _ (hY _ ⟨rfl, np, sk_mk I⟩)
theorem i_vc_queued {k : Nat} {u : SX} {v : SY} (I : i_Rel k u v) (hk : k + 5 ≤ 2562) (v1 : Int32) (v2 : Int32) (v3 : Int32) : wpX_queued (fun r => wpY_queued (fun r' => r' = r ∧ i_Rel (k + 5) u v) v v1 v2 v3) u v1 v2 v3 := by
  obtain ⟨np, nd, es, ls, et, co, ca, pc, ra, rb, sp, mk, dp, fc, fa, fb, fm, sl, st, lf, su, pg, pn, ss, ql, qs, qr, hd, fl, ek, ep, ev, er, rfl, rfl, I⟩ := I
  obtain ⟨r, hX, hY⟩ := sk_queued v1 v2 v3 I
  exact hX _ (hY _ ⟨rfl, np, sk_mk I⟩)
theorem i_vc_pendingSerial {k : Nat} {u : SX} {v : SY} (I : i_Rel k u v) (hk : k + 5 ≤ 2562) (v1 : Int32) (v2 : Int32) : wpX_pendingSerial (fun r => wpY_pendingSerial (fun r' => r' = r ∧ i_Rel (k + 5) u v) v v1 v2) u v1 v2 := by
  obtain ⟨np, nd, es, ls, et, co, ca, pc, ra, rb, sp, mk, dp, fc, fa, fb, fm, sl, st, lf, su, pg, pn, ss, ql, qs, qr, hd, fl, ek, ep, ev, er, rfl, rfl, I⟩ := I
  obtain ⟨r, hX, hY⟩ := sk_pendingSerial v1 v2 I
  exact hX _ (hY _ ⟨rfl, np, sk_mk I⟩)
theorem i_vc_getAction {k : Nat} {u : SX} {v : SY} (I : i_Rel k u v) (hk : k + 5 ≤ 2562) (v1 : Int32) (v2 : Int32) (v3 : Int32) : wpX_getAction (fun r => wpY_getAction (fun r' => r' = r ∧ i_Rel (k + 5) u v) v v1 v2 v3) u v1 v2 v3 := by
  obtain ⟨np, nd, es, ls, et, co, ca, pc, ra, rb, sp, mk, dp, fc, fa, fb, fm, sl, st, lf, su, pg, pn, ss, ql, qs, qr, hd, fl, ek, ep, ev, er, rfl, rfl, I⟩ := I
  obtain ⟨r, hX, hY⟩ := sk_getAction v1 v2 v3 I
  exact hX _ (hY _ ⟨rfl, np, sk_mk I⟩)
theorem i_vc_logField {k : Nat} {u : SX} {v : SY} (I : i_Rel k u v) (hk : k + 5 ≤ 2562) (v1 : Int32) (v2 : Int32) : wpX_logField (fun r => wpY_logField (fun r' => r' = r ∧ i_Rel (k + 5) u v) v v1 v2) u v1 v2 := by
  obtain ⟨np, nd, es, ls, et, co, ca, pc, ra, rb, sp, mk, dp, fc, fa, fb, fm, sl, st, lf, su, pg, pn, ss, ql, qs, qr, hd, fl, ek, ep, ev, er, rfl, rfl, I⟩ := I
  obtain ⟨r, hX, hY⟩ := sk_logField v1 v2 I
  exact hX _ (hY _ ⟨rfl, np, sk_mk I⟩)
theorem i_vc_logTotal {k : Nat} {u : SX} {v : SY} (I : i_Rel k u v) (hk : k + 5 ≤ 2562) : wpX_logTotal (fun r => wpY_logTotal (fun r' => r' = r ∧ i_Rel (k + 5) u v) v) u := by
  obtain ⟨np, nd, es, ls, et, co, ca, pc, ra, rb, sp, mk, dp, fc, fa, fb, fm, sl, st, lf, su, pg, pn, ss, ql, qs, qr, hd, fl, ek, ep, ev, er, rfl, rfl, I⟩ := I
  unfold wpX_logTotal wpY_logTotal
  exact ⟨rfl, np, sk_mk I⟩
end
