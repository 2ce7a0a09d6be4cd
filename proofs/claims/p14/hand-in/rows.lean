section
/-! rows of the kit pasted (pk_, bt, b_, nf_), then the pure rows of this claim: bits, the pending set, cleared and shifted arrays -/
def bt (x : Int32) (i : Nat) : Bool := x.toBitVec.getLsbD i
theorem b_ext {x y : Int32} (h : ∀ i, i < 32 → bt x i = bt y i) : x = y := Int32.toBitVec_inj.mp (BitVec.eq_of_getLsbD_eq (fun i hi => h i hi))
theorem b_or (x y : Int32) (i : Nat) : bt (x ||| y) i = (bt x i || bt y i) := by unfold bt; rw [Int32.toBitVec_or, BitVec.getLsbD_or]
theorem b_and (x y : Int32) (i : Nat) : bt (x &&& y) i = (bt x i && bt y i) := by unfold bt; rw [Int32.toBitVec_and, BitVec.getLsbD_and]
theorem b_xor (x y : Int32) (i : Nat) : bt (x ^^^ y) i = (bt x i ^^ bt y i) := by unfold bt; rw [Int32.toBitVec_xor, BitVec.getLsbD_xor]
theorem b_big {x : Int32} {i : Nat} (h : 32 ≤ i) : bt x i = false := BitVec.getLsbD_of_ge _ _ h
theorem b_m1 : ∀ i, i < 32 → bt (-1) i = true := by decide +kernel
theorem b_0 (i : Nat) : bt 0 i = false := BitVec.getLsbD_zero
theorem nf_sh : ∀ l, l < 32 → ((1 : Int32) <<< (nI l &&& 31)).toBitVec = BitVec.twoPow 32 l := by decide +kernel
theorem nf_tp : ∀ l, l < 32 → BitVec.twoPow 32 l ≠ 0#32 := by decide +kernel
theorem sk_bit {l : Nat} (hl : l < 32) (i : Nat) : bt ((1 : Int32) <<< (nI l &&& 31)) i = decide (i = l) := by
  unfold bt
  rw [nf_sh l hl, BitVec.getLsbD_twoPow, decide_eq_true hl, Bool.true_and]
  exact decide_eq_decide.mpr ⟨Eq.symm, Eq.symm⟩
theorem sk_and0 {x : Int32} {l : Nat} (hl : l < 32) : x &&& ((1 : Int32) <<< (nI l &&& 31)) = 0 ↔ bt x l = false := by
  constructor
  · intro h
    have e : bt (x &&& ((1 : Int32) <<< (nI l &&& 31))) l = bt 0 l := by rw [h]
    rw [b_and, sk_bit hl, b_0] at e
    simpa using e
  · intro h
    apply b_ext
    intro i _
    rw [b_and, sk_bit hl, b_0]
    by_cases e : i = l
    · rw [e, h, Bool.false_and]
    · rw [decide_eq_false e, Bool.and_false]
theorem sk_not (x : Int32) {i : Nat} (hi : i < 32) : bt (x ^^^ (-1)) i = !bt x i := by
  rw [b_xor, b_m1 i hi, Bool.xor_true]
/-- the word pd holds, bit for bit, the flags of process p's signals 1 to 15 -/
def sk_PB (pd : Int32) (pn : Nat → Int32) (p : Nat) : Prop := ∀ s, s < 32 → (bt pd s = true ↔ 1 ≤ s ∧ s < 16 ∧ ¬ pn (p * 16 + s) = 0)
theorem sk_PB_t {pd : Int32} {pn : Nat → Int32} {p s : Nat} (h : sk_PB pd pn p) (h1 : 1 ≤ s) (h2 : s < 16) : pd &&& ((1 : Int32) <<< (nI s &&& 31)) = 0 ↔ pn (p * 16 + s) = 0 := by
  rw [sk_and0 (by omega)]
  have hh := h s (by omega)
  cases hb : bt pd s with
  | false =>
    rw [hb] at hh
    exact ⟨fun _ => Classical.byContradiction fun z => absurd (hh.mpr ⟨h1, h2, z⟩) (by decide), fun _ => rfl⟩
  | true =>
    rw [hb] at hh
    exact ⟨fun z => absurd z (by decide), fun z => absurd z (hh.mp rfl).2.2⟩
theorem sk_PB_r {pd m : Int32} {pn : Nat → Int32} {p s : Nat} (h : sk_PB pd pn p) (h1 : 1 ≤ s) (h2 : s < 16) : (pd &&& (m ^^^ (-1))) &&& ((1 : Int32) <<< (nI s &&& 31)) = 0 ↔ (pn (p * 16 + s) = 0 ∨ ¬ m &&& ((1 : Int32) <<< (nI s &&& 31)) = 0) := by
  rw [← sk_PB_t h h1 h2, sk_and0 (by omega), sk_and0 (by omega), sk_and0 (by omega), b_and, sk_not _ (by omega)]
  cases bt pd s <;> cases bt m s <;> decide
theorem sk_PB_d {pd : Int32} {pn : Nat → Int32} {p s : Nat} (h : sk_PB pd pn p) (hs : s < 16) : sk_PB (pd &&& (((1 : Int32) <<< (nI s &&& 31)) ^^^ (-1))) (upd pn (p * 16 + s) 0) p := by
  intro i hi
  have hh := h i hi
  rw [b_and, sk_not _ hi, sk_bit (by omega)]
  by_cases e : i = s
  · subst e
    rw [pk_us]
    simp
  · rw [pk_un (by omega), decide_eq_false e, Bool.not_false, Bool.and_true]
    exact hh
theorem sk_PB_m {pd x : Int32} {pn : Nat → Int32} {p s : Nat} (h : sk_PB pd pn p) (h1 : 1 ≤ s) (hs : s < 16) (hx : ¬ x = 0) : sk_PB (pd ||| ((1 : Int32) <<< (nI s &&& 31))) (upd pn (p * 16 + s) x) p := by
  intro i hi
  have hh := h i hi
  rw [b_or, sk_bit (by omega)]
  by_cases e : i = s
  · subst e
    rw [pk_us]
    simp [h1, hs, hx]
  · rw [pk_un (by omega), decide_eq_false e, Bool.or_false]
    exact hh
theorem sk_PB_o {pd : Int32} {pn pn' : Nat → Int32} {q : Nat} (h : sk_PB pd pn q) (e : ∀ s, s < 16 → pn' (q * 16 + s) = pn (q * 16 + s)) : sk_PB pd pn' q := by
  intro i hi
  have hh := h i hi
  by_cases z : i < 16
  · rw [e i z]; exact hh
  · exact ⟨fun y => absurd (hh.mp y).2.1 z, fun y => absurd y.2.1 z⟩
theorem sk_PB_0 {pn : Nat → Int32} {p : Nat} (h : ∀ s, s < 16 → pn (p * 16 + s) = 0) : sk_PB 0 pn p := by
  intro i _
  rw [b_0]
  exact ⟨fun z => absurd z (by decide), fun z => absurd (h i z.2.1) z.2.2⟩
/-- b .. b+n-1 cleared, one after the other -/
def sk_clr (f : Nat → Int32) (b : Nat) : Nat → Nat → Int32
  | 0 => f
  | n + 1 => upd (sk_clr f b n) (b + n) 0
theorem sk_clr_in {f : Nat → Int32} {b j : Nat} : ∀ n, j < n → sk_clr f b n (b + j) = 0 := by
  intro n
  induction n with
  | zero => intro h; omega
  | succ n ih =>
    intro h
    show upd (sk_clr f b n) (b + n) 0 (b + j) = 0
    by_cases e : j = n
    · rw [e, pk_us]
    · rw [pk_un (by omega)]; exact ih (by omega)
theorem sk_clr_out {f : Nat → Int32} {b j : Nat} : ∀ n, (j < b ∨ b + n ≤ j) → sk_clr f b n j = f j := by
  intro n
  induction n with
  | zero => intro _; rfl
  | succ n ih =>
    intro h
    show upd (sk_clr f b n) (b + n) 0 j = f j
    rw [pk_un (by omega)]; exact ih (by omega)
/-- the queue's slots b+j .. shifted down by one, n of them -/
def sk_shf (f : Nat → Int32) (b : Nat) : Nat → Nat → Int32
  | 0 => f
  | n + 1 => upd (sk_shf f b n) (b + n) (sk_shf f b n (b + n + 1))
theorem sk_shf_hi {f : Nat → Int32} {b j : Nat} : ∀ n, (j < b ∨ b + n ≤ j) → sk_shf f b n j = f j := by
  intro n
  induction n with
  | zero => intro _; rfl
  | succ n ih =>
    intro h
    show upd (sk_shf f b n) (b + n) _ j = f j
    rw [pk_un (by omega)]; exact ih (by omega)
theorem sk_shf_in {f : Nat → Int32} {b j : Nat} : ∀ n, j < n → sk_shf f b n (b + j) = f (b + j + 1) := by
  intro n
  induction n with
  | zero => intro h; omega
  | succ n ih =>
    intro h
    show upd (sk_shf f b n) (b + n) _ (b + j) = _
    by_cases e : j = n
    · rw [e, pk_us, sk_shf_hi n (by omega)]
    · rw [pk_un (by omega)]; exact ih (by omega)
/-- the log's arrays and count behind one event -/
def sk_lgN (n : Nat) : Nat := if n < 128 then n + 1 else n
def sk_lgA (f : Nat → Int32) (n : Nat) (x : Int32) : Nat → Int32 := if n < 128 then upd f n x else f
theorem sk_lgN_le {n : Nat} (h : n ≤ 128) : sk_lgN n ≤ 128 := by
  unfold sk_lgN
  split <;> omega
/-! the invariants -/
def sk_PA (pg pn : Nat → Int32) : Prop := ∀ p, p < 4 → sk_PB (pg p) pn p
def sk_SZ (pn ss : Nat → Int32) : Prop := ∀ j, pn j = 0 → ss j = 0
def sk_DP (dp : Nat → Int32) : Prop := ∀ p, p < 4 → ∃ d, d ≤ 4 ∧ dp p = nI d
def sk_QL (ql qs : Nat → Int32) : Prop := ∀ p, p < 4 → ∃ l, l ≤ 8 ∧ ql p = nI l ∧ ∀ j, j < l → ∃ s, 1 ≤ s ∧ s < 32 ∧ qs (p * 8 + j) = nI s
def sk_HD (hd : Nat → Int32) : Prop := ∀ j, hd j = -2 ∨ hd j = -1 ∨ 0 ≤ hd j
def sk_SL (sl : Nat → Int32) : Prop := ∀ p, 0 ≤ sl p
def sk_MK (mk : Nat → Int32) : Prop := ∀ p, mk p &&& (-33282) = mk p
theorem sk_PA_d {pg pn : Nat → Int32} {p s : Nat} (h : sk_PA pg pn) (hs : s < 16) : sk_PA (upd pg p (pg p &&& (((1 : Int32) <<< (nI s &&& 31)) ^^^ (-1)))) (upd pn (p * 16 + s) 0) := by
  intro q hq
  by_cases e : q = p
  · subst e
    rw [pk_us]
    exact sk_PB_d (h q hq) hs
  · rw [pk_un e]
    exact sk_PB_o (h q hq) fun i hi => pk_un (by omega)
theorem sk_PA_m {pg pn : Nat → Int32} {p s : Nat} {x : Int32} (h : sk_PA pg pn) (h1 : 1 ≤ s) (hs : s < 16) (hx : ¬ x = 0) : sk_PA (upd pg p (pg p ||| ((1 : Int32) <<< (nI s &&& 31)))) (upd pn (p * 16 + s) x) := by
  intro q hq
  by_cases e : q = p
  · subst e
    rw [pk_us]
    exact sk_PB_m (h q hq) h1 hs hx
  · rw [pk_un e]
    exact sk_PB_o (h q hq) fun i hi => pk_un (by omega)
theorem sk_PA_c {pg pn : Nat → Int32} {p : Nat} (h : sk_PA pg pn) : sk_PA (upd pg p 0) (sk_clr pn (p * 16) 16) := by
  intro q hq
  by_cases e : q = p
  · subst e
    rw [pk_us]
    exact sk_PB_0 fun i hi => sk_clr_in 16 hi
  · rw [pk_un e]
    exact sk_PB_o (h q hq) fun i hi => sk_clr_out 16 (by omega)
theorem sk_SZ_d {pn ss : Nat → Int32} {j : Nat} (x : Int32) (h : sk_SZ pn ss) : sk_SZ (upd pn j x) (upd ss j 0) := by
  intro i hi
  by_cases e : i = j
  · rw [e, pk_us]
  · rw [pk_un e] at hi ⊢
    exact h i hi
theorem sk_SZ_m {pn ss : Nat → Int32} {j : Nat} {x y : Int32} (h : sk_SZ pn ss) (hx : ¬ x = 0) : sk_SZ (upd pn j x) (upd ss j y) := by
  intro i hi
  by_cases e : i = j
  · rw [e, pk_us] at hi
    exact absurd hi hx
  · rw [pk_un e] at hi ⊢
    exact h i hi
theorem sk_SZ_c {pn ss : Nat → Int32} {b n : Nat} (h : sk_SZ pn ss) : sk_SZ (sk_clr pn b n) (sk_clr ss b n) := by
  induction n with
  | zero => exact h
  | succ n ih => exact sk_SZ_d 0 ih
theorem sk_DP_u {dp : Nat → Int32} {p d : Nat} (h : sk_DP dp) (hd : d ≤ 4) : sk_DP (upd dp p (nI d)) := by
  intro q hq
  by_cases e : q = p
  · exact ⟨d, hd, by rw [e, pk_us]⟩
  · rw [pk_un e]; exact h q hq
theorem sk_QL_0 {ql qs : Nat → Int32} {p : Nat} (h : sk_QL ql qs) : sk_QL (upd ql p 0) qs := by
  intro q hq
  by_cases e : q = p
  · exact ⟨0, by omega, by rw [e, pk_us]; exact nI_0.symm, fun j hj => by omega⟩
  · rw [pk_un e]; exact h q hq
theorem sk_QL_a {ql qs : Nat → Int32} {p l s : Nat} (hp : p < 4) (h : sk_QL ql qs) (hl : l < 8) (e : ql p = nI l) (h1 : 1 ≤ s) (h2 : s < 32) : sk_QL (upd ql p (nI (l + 1))) (upd qs (p * 8 + l) (nI s)) := by
  intro q hq
  by_cases eq : q = p
  · subst eq
    refine ⟨l + 1, by omega, by rw [pk_us], fun j hj => ?_⟩
    by_cases ej : j = l
    · exact ⟨s, h1, h2, by rw [ej, pk_us]⟩
    · obtain ⟨l', hl', el', hh⟩ := h q hq
      rw [e] at el'
      have el : l = l' := (nI_eq (by omega) (by omega)).mp el'
      subst el
      rw [pk_un (by omega)]
      exact hh j (by omega)
  · obtain ⟨l', hl', el', hh⟩ := h q hq
    refine ⟨l', hl', by rw [pk_un eq]; exact el', fun j hj => ?_⟩
    rw [pk_un (by omega)]
    exact hh j hj
theorem sk_QL_r {ql qs : Nat → Int32} {p l j : Nat} (hp : p < 4) (h : sk_QL ql qs) (hl : l + 1 ≤ 8) (e : ql p = nI (l + 1)) (hj : j ≤ l) : sk_QL (upd ql p (nI l)) (sk_shf qs (p * 8 + j) (l - j)) := by
  intro q hq
  by_cases eq : q = p
  · subst eq
    obtain ⟨l', hl', el', hh⟩ := h q hq
    rw [e] at el'
    have el : l + 1 = l' := (nI_eq (by omega) (by omega)).mp el'
    subst el
    refine ⟨l, by omega, by rw [pk_us], fun i hi => ?_⟩
    by_cases z : i < j
    · rw [sk_shf_hi _ (by omega)]
      exact hh i (by omega)
    · obtain ⟨s, h1, h2, hs⟩ := hh (i + 1) (by omega)
      refine ⟨s, h1, h2, ?_⟩
      have := sk_shf_in (f := qs) (b := q * 8 + j) (j := i - j) (l - j) (by omega)
      rw [show q * 8 + j + (i - j) = q * 8 + i by omega] at this
      rw [this]; exact hs
  · obtain ⟨l', hl', el', hh⟩ := h q hq
    refine ⟨l', hl', by rw [pk_un eq]; exact el', fun i hi => ?_⟩
    rw [sk_shf_hi _ (by omega)]
    exact hh i hi
theorem sk_HD_u {hd : Nat → Int32} {j : Nat} {x : Int32} (h : sk_HD hd) (hx : x = -2 ∨ x = -1 ∨ 0 ≤ x) : sk_HD (upd hd j x) := by
  intro i
  by_cases e : i = j
  · rw [e, pk_us]; exact hx
  · rw [pk_un e]; exact h i
theorem sk_SL_u {sl : Nat → Int32} {j : Nat} {x : Int32} (h : sk_SL sl) (hx : 0 ≤ x) : sk_SL (upd sl j x) := by
  intro i
  by_cases e : i = j
  · rw [e, pk_us]; exact hx
  · rw [pk_un e]; exact h i
theorem sk_MK_u {mk : Nat → Int32} {j : Nat} {x : Int32} (h : sk_MK mk) (hx : x &&& (-33282) = x) : sk_MK (upd mk j x) := by
  intro i
  by_cases e : i = j
  · rw [e, pk_us]; exact hx
  · rw [pk_un e]; exact h i
theorem sk_clean (x : Int32) : (x &&& (-33282)) &&& (-33282) = x &&& (-33282) := by
  rw [Int32.and_assoc, Int32.and_self]
theorem sk_same {f : Nat → Int32} {j : Nat} {x : Int32} (h : f j = x) : upd f j x = f := by
  funext i
  by_cases e : i = j
  · rw [e, pk_us]; exact h.symm
  · exact pk_un e
/-! index arithmetic: nI p * c + nI s -/
theorem sk_ix (p c s : Nat) : nI p * nI c + nI s = nI (p * c + s) := by rw [pk_mul, nI_add]
theorem sk_ix16 (p s : Nat) : nI p * 16 + nI s = nI (p * 16 + s) := sk_ix p 16 s
theorem sk_ix32 (p s : Nat) : nI p * 32 + nI s = nI (p * 32 + s) := sk_ix p 32 s
theorem sk_ix8 (p s : Nat) : nI p * 8 + nI s = nI (p * 8 + s) := sk_ix p 8 s
theorem sk_ix4 (p s : Nat) : nI p * 4 + nI s = nI (p * 4 + s) := sk_ix p 4 s
theorem sk_sel (P : Nat → Prop) (a b : Nat) : (∃ i, a ≤ i ∧ i < b ∧ P i ∧ ∀ j, a ≤ j → j < i → ¬ P j) ∨ (∀ j, a ≤ j → j < b → ¬ P j) := by
  by_cases h : ∃ i, a ≤ i ∧ i < b ∧ P i
  · obtain ⟨i, ⟨h1, h2, h3⟩, hm⟩ := pk_least (fun i => a ≤ i ∧ i < b ∧ P i) h
    exact Or.inl ⟨i, h1, h2, h3, fun j hj hji hp => hm j hji ⟨hj, by omega, hp⟩⟩
  · exact Or.inr fun j h1 h2 hp => h ⟨j, h1, h2, hp⟩
theorem sk_nb0 : vp_nar .boolean 0 = 0 := by rfl
theorem sk_nb1 : vp_nar .boolean 1 = 1 := by rfl
/-! entering a handler: what is kept of pc and A, the new mask, the disposition behind it -/
def sk_itC (sl pc : Nat → Int32) (p : Nat) (f : Int32) : Int32 := if 0 < sl p ∧ f &&& 1 = 0 then pc p + 1 else pc p
def sk_itA (sl ra : Nat → Int32) (p : Nat) (f : Int32) : Int32 := if 0 < sl p ∧ f &&& 1 = 0 then -4 else ra p
def sk_mkH (mk : Nat → Int32) (p g : Nat) (f : Int32) : Nat → Int32 := if f &&& 2 = 0 then upd mk p ((mk p ||| ((1 : Int32) <<< (nI g &&& 31))) &&& (-33282)) else mk
def sk_hdH (hd : Nat → Int32) (j : Nat) (f : Int32) : Nat → Int32 := if f &&& 4 = 0 then hd else upd hd j (-1)
def sk_flH (fl : Nat → Int32) (j : Nat) (f : Int32) : Nat → Int32 := if f &&& 4 = 0 then fl else upd fl j 0
theorem sk_MK_H {mk : Nat → Int32} {p g : Nat} {f : Int32} (h : sk_MK mk) : sk_MK (sk_mkH mk p g f) := by
  unfold sk_mkH
  split
  · exact sk_MK_u h (sk_clean _)
  · exact h
theorem sk_HD_H {hd : Nat → Int32} {j : Nat} {f : Int32} (h : sk_HD hd) : sk_HD (sk_hdH hd j f) := by
  unfold sk_hdH
  split
  · exact h
  · exact sk_HD_u h (Or.inr (Or.inl rfl))
end
section
section
variable {np nd es : Nat} {ls et : Int32} {co ca pc ra rb sp mk dp fc fa fb fm sl st lf su pg pn ss ql qs qr hd fl ek ep ev er : Nat → Int32}
theorem sx_log {post : St2 → Prop} {k p v s : Int32} (hs : es ≤ 128) (h : post (nI np, nI nd, ls, et + 1, nI (sk_lgN es), co, ca, pc, ra, rb, sp, mk, dp, fc, fa, fb, fm, sl, st, lf, su, pg, ss, ql, qs, qr, hd, fl, sk_lgA ek es k, sk_lgA ep es p, sk_lgA ev es v, sk_lgA er es s)) : wpX_logEvent post (nI np, nI nd, ls, et, nI es, co, ca, pc, ra, rb, sp, mk, dp, fc, fa, fb, fm, sl, st, lf, su, pg, ss, ql, qs, qr, hd, fl, ek, ep, ev, er) k p v s := by
  by_cases z : es < 128
  · have e1 : nI es < (128 : Int32) := nI_lt (b := 128) z (by decide)
    have e2 : vp_in (nI es) 128 := vp_in_nI z (by decide)
    have e3 : (nI es).toNatClampNeg = es := nI_clamp (by omega)
    simp only [sk_lgN, sk_lgA, if_pos z] at h
    simp only [wpX_logEvent, e1, e2, e3, nI_1, true_implies, false_implies, not_true_eq_false, not_false_eq_true, and_true, true_and, forall_eq, implies_true]
    exact h
  · have e1 : ¬ nI es < (128 : Int32) := nI_nlt (b := 128) (by omega) (by omega)
    simp only [sk_lgN, sk_lgA, if_neg z] at h
    simp only [wpX_logEvent, e1, true_implies, false_implies, not_true_eq_false, not_false_eq_true, and_true, true_and, forall_eq, implies_true]
    exact h
theorem sx_serial {post : Int32 → St2 → Prop} (h : post (ls + 1) (nI np, nI nd, ls + 1, et, nI es, co, ca, pc, ra, rb, sp, mk, dp, fc, fa, fb, fm, sl, st, lf, su, pg, ss, ql, qs, qr, hd, fl, ek, ep, ev, er)) : wpX_issueSerial post (nI np, nI nd, ls, et, nI es, co, ca, pc, ra, rb, sp, mk, dp, fc, fa, fb, fm, sl, st, lf, su, pg, ss, ql, qs, qr, hd, fl, ek, ep, ev, er) := by
  simp only [wpX_issueSerial, true_implies, false_implies, not_true_eq_false, not_false_eq_true, and_true, true_and, forall_eq, implies_true]
  exact h
theorem sx_drop {post : St2 → Prop} {p s : Nat} (hp : p < 4) (hs : s < 16) (h : post (nI np, nI nd, ls, et, nI es, co, ca, pc, ra, rb, sp, mk, dp, fc, fa, fb, fm, sl, st, lf, su, upd pg p (pg p &&& (((1 : Int32) <<< (nI s &&& 31)) ^^^ (-1))), upd ss (p * 16 + s) 0, ql, qs, qr, hd, fl, ek, ep, ev, er)) : wpX_dropPending post (nI np, nI nd, ls, et, nI es, co, ca, pc, ra, rb, sp, mk, dp, fc, fa, fb, fm, sl, st, lf, su, pg, ss, ql, qs, qr, hd, fl, ek, ep, ev, er) (nI p) (nI s) := by
  have e1 : vp_in (nI p) 4 := vp_in_nI hp (by decide)
  have e2 : (nI p).toNatClampNeg = p := nI_clamp (by omega)
  have e3 : vp_in (nI (p * 16 + s)) 64 := vp_in_nI (by omega) (by decide)
  have e4 : (nI (p * 16 + s)).toNatClampNeg = p * 16 + s := nI_clamp (by omega)
  simp only [wpX_dropPending, e1, e2, sk_ix16, e3, e4, true_implies, false_implies, not_true_eq_false, not_false_eq_true, and_true, true_and, forall_eq, implies_true]
  exact h
theorem sx_mark1 {post : Int32 → St2 → Prop} {p s : Nat} (hp : p < 4) (hs : s < 16) (hz : pg p &&& ((1 : Int32) <<< (nI s &&& 31)) = 0) (h : post (ls + 1) (nI np, nI nd, ls + 1, et, nI es, co, ca, pc, ra, rb, sp, mk, dp, fc, fa, fb, fm, sl, st, lf, su, upd pg p (pg p ||| ((1 : Int32) <<< (nI s &&& 31))), upd ss (p * 16 + s) (ls + 1), ql, qs, qr, hd, fl, ek, ep, ev, er)) : wpX_markPending post (nI np, nI nd, ls, et, nI es, co, ca, pc, ra, rb, sp, mk, dp, fc, fa, fb, fm, sl, st, lf, su, pg, ss, ql, qs, qr, hd, fl, ek, ep, ev, er) (nI p) (nI s) := by
  have e1 : vp_in (nI p) 4 := vp_in_nI hp (by decide)
  have e2 : (nI p).toNatClampNeg = p := nI_clamp (by omega)
  have e3 : vp_in (nI (p * 16 + s)) 64 := vp_in_nI (by omega) (by decide)
  have e4 : (nI (p * 16 + s)).toNatClampNeg = p * 16 + s := nI_clamp (by omega)
  simp only [wpX_markPending, e1, e2, hz, true_implies, false_implies, not_true_eq_false, not_false_eq_true, and_true, true_and, forall_eq, implies_true]
  refine sx_serial ?_
  simp only [e1, e2, sk_ix16, e3, e4, true_implies, false_implies, not_true_eq_false, not_false_eq_true, and_true, true_and, forall_eq, implies_true]
  exact h
theorem sx_mark0 {post : Int32 → St2 → Prop} {p s : Nat} (hp : p < 4) (hz : ¬ pg p &&& ((1 : Int32) <<< (nI s &&& 31)) = 0) (h : post 0 (nI np, nI nd, ls, et, nI es, co, ca, pc, ra, rb, sp, mk, dp, fc, fa, fb, fm, sl, st, lf, su, pg, ss, ql, qs, qr, hd, fl, ek, ep, ev, er)) : wpX_markPending post (nI np, nI nd, ls, et, nI es, co, ca, pc, ra, rb, sp, mk, dp, fc, fa, fb, fm, sl, st, lf, su, pg, ss, ql, qs, qr, hd, fl, ek, ep, ev, er) (nI p) (nI s) := by
  have e1 : vp_in (nI p) 4 := vp_in_nI hp (by decide)
  have e2 : (nI p).toNatClampNeg = p := nI_clamp (by omega)
  simp only [wpX_markPending, e1, e2, hz, true_implies, false_implies, not_true_eq_false, not_false_eq_true, and_true, true_and, forall_eq, implies_true]
  exact h
theorem sx_enq {post : Int32 → St2 → Prop} {p l s : Nat} (hp : p < 4) (hl : l < 8) (e : ql p = nI l) (h : post (ls + 1) (nI np, nI nd, ls + 1, et, nI es, co, ca, pc, ra, rb, sp, mk, dp, fc, fa, fb, fm, sl, st, lf, su, pg, ss, upd ql p (nI (l + 1)), upd qs (p * 8 + l) (nI s), upd qr (p * 8 + l) (ls + 1), hd, fl, ek, ep, ev, er)) : wpX_enqueue post (nI np, nI nd, ls, et, nI es, co, ca, pc, ra, rb, sp, mk, dp, fc, fa, fb, fm, sl, st, lf, su, pg, ss, ql, qs, qr, hd, fl, ek, ep, ev, er) (nI p) (nI s) := by
  have e1 : vp_in (nI p) 4 := vp_in_nI hp (by decide)
  have e2 : (nI p).toNatClampNeg = p := nI_clamp (by omega)
  have e3 : vp_in (nI (p * 8 + l)) 32 := vp_in_nI (by omega) (by decide)
  have e4 : (nI (p * 8 + l)).toNatClampNeg = p * 8 + l := nI_clamp (by omega)
  simp only [wpX_enqueue]
  refine sx_serial ?_
  simp only [e1, e2, e, sk_ix8, e3, e4, nI_1, true_implies, false_implies, not_true_eq_false, not_false_eq_true, and_true, true_and, forall_eq, implies_true]
  exact h
theorem sx_die_l {post : St2 → Prop} {p : Nat} (hp : p < 4) (h : post (nI np, nI nd, ls, et, nI es, co, ca, pc, ra, rb, sp, mk, dp, fc, fa, fb, fm, upd sl p 0, upd st p 0, lf, su, pg, sk_clr ss (p * 16) 16, upd ql p 0, qs, qr, hd, fl, ek, ep, ev, er)) : ∀ d i, i + d = 16 → wX_die_24 post (nI p) (nI np) (nI nd) ls et (nI es) (d + 1) (nI i) co ca pc ra rb sp mk dp fc fa fb fm sl st lf su pg (sk_clr ss (p * 16) i) ql qs qr hd fl ek ep ev er := by
  have e1 : vp_in (nI p) 4 := vp_in_nI hp (by decide)
  have e2 : (nI p).toNatClampNeg = p := nI_clamp (by omega)
  intro d
  induction d with
  | zero =>
    intro i hi
    have hi' : i = 16 := by omega
    subst hi'
    have z : (16 : Int32) ≤ nI 16 := by decide
    rw [wX_die_24]
    simp only [z, e1, e2, sk_nb0, true_implies, false_implies, not_true_eq_false, not_false_eq_true, and_true, true_and, forall_eq, implies_true]
    exact h
  | succ d ih =>
    intro i hi
    have z : ¬ (16 : Int32) ≤ nI i := nI_ge (b := 16) (by omega) (by decide)
    have e3 : vp_in (nI (p * 16 + i)) 64 := vp_in_nI (by omega) (by decide)
    have e4 : (nI (p * 16 + i)).toNatClampNeg = p * 16 + i := nI_clamp (by omega)
    rw [wX_die_24]
    simp only [z, sk_ix16, e3, e4, nI_1, true_implies, false_implies, not_true_eq_false, not_false_eq_true, and_true, true_and, forall_eq, implies_true]
    exact ih (i + 1) (by omega)
theorem sx_die {post : St2 → Prop} {p : Nat} {how fs : Int32} (hp : p < 4) (h : post (nI np, nI nd, ls, et, nI es, co, ca, pc, ra, rb, sp, mk, dp, fc, fa, fb, fm, upd sl p 0, upd st p 0, upd lf p how, upd su p fs, upd pg p 0, sk_clr ss (p * 16) 16, upd ql p 0, qs, qr, hd, fl, ek, ep, ev, er)) : wpX_die post (nI np, nI nd, ls, et, nI es, co, ca, pc, ra, rb, sp, mk, dp, fc, fa, fb, fm, sl, st, lf, su, pg, ss, ql, qs, qr, hd, fl, ek, ep, ev, er) (nI p) how fs := by
  have e1 : vp_in (nI p) 4 := vp_in_nI hp (by decide)
  have e2 : (nI p).toNatClampNeg = p := nI_clamp (by omega)
  simp only [wpX_die, e1, e2, true_implies, false_implies, not_true_eq_false, not_false_eq_true, and_true, true_and, forall_eq, implies_true]
  exact ⟨17, sx_die_l hp h 16 0 rfl⟩
theorem sx_term {post : St2 → Prop} {p : Nat} {sig ser : Int32} (hp : p < 4) (hs : es ≤ 128) (h : post (nI np, nI nd, ls, et + 1, nI (sk_lgN es), co, ca, pc, ra, rb, sp, mk, dp, fc, fa, fb, fm, upd sl p 0, upd st p 0, upd lf p 4, upd su p sig, upd pg p 0, sk_clr ss (p * 16) 16, upd ql p 0, qs, qr, hd, fl, sk_lgA ek es 2, sk_lgA ep es (nI p), sk_lgA ev es sig, sk_lgA er es ser)) : wpX_terminate post (nI np, nI nd, ls, et, nI es, co, ca, pc, ra, rb, sp, mk, dp, fc, fa, fb, fm, sl, st, lf, su, pg, ss, ql, qs, qr, hd, fl, ek, ep, ev, er) (nI p) sig ser := by
  unfold wpX_terminate
  refine sx_die hp ?_
  refine sx_log hs ?_
  exact h
theorem sx_opp12 {post : St2 → Prop} {p : Nat} (hp : p < 4) (h : post (nI np, nI nd, ls, et, nI es, co, ca, pc, ra, rb, sp, mk, dp, fc, fa, fb, fm, sl, st, lf, su, upd pg p (pg p &&& (((1 : Int32) <<< (nI 14 &&& 31)) ^^^ (-1))), upd ss (p * 16 + 14) 0, ql, qs, qr, hd, fl, ek, ep, ev, er)) : wpX_dropOpposites post (nI np, nI nd, ls, et, nI es, co, ca, pc, ra, rb, sp, mk, dp, fc, fa, fb, fm, sl, st, lf, su, pg, ss, ql, qs, qr, hd, fl, ek, ep, ev, er) (nI p) 12 := by
  unfold wpX_dropOpposites
  refine br_t rfl ?_
  unfold wX_dropOpposites_12
  refine sx_drop (s := 14) hp (by decide) ?_
  exact br_f (by decide) h
theorem sx_opp15 {post : St2 → Prop} {p : Nat} (hp : p < 4) (h : post (nI np, nI nd, ls, et, nI es, co, ca, pc, ra, rb, sp, mk, dp, fc, fa, fb, fm, sl, st, lf, su, upd pg p (pg p &&& (((1 : Int32) <<< (nI 14 &&& 31)) ^^^ (-1))), upd ss (p * 16 + 14) 0, ql, qs, qr, hd, fl, ek, ep, ev, er)) : wpX_dropOpposites post (nI np, nI nd, ls, et, nI es, co, ca, pc, ra, rb, sp, mk, dp, fc, fa, fb, fm, sl, st, lf, su, pg, ss, ql, qs, qr, hd, fl, ek, ep, ev, er) (nI p) 15 := by
  unfold wpX_dropOpposites
  refine br_f (by decide) (br_t rfl ?_)
  unfold wX_dropOpposites_12
  refine sx_drop (s := 14) hp (by decide) ?_
  exact br_f (by decide) h
theorem sx_oppN {post : St2 → Prop} {p g : Nat} (hg : g < 32) (h12 : g ≠ 12) (h14 : g ≠ 14) (h15 : g ≠ 15) (h : post (nI np, nI nd, ls, et, nI es, co, ca, pc, ra, rb, sp, mk, dp, fc, fa, fb, fm, sl, st, lf, su, pg, ss, ql, qs, qr, hd, fl, ek, ep, ev, er)) : wpX_dropOpposites post (nI np, nI nd, ls, et, nI es, co, ca, pc, ra, rb, sp, mk, dp, fc, fa, fb, fm, sl, st, lf, su, pg, ss, ql, qs, qr, hd, fl, ek, ep, ev, er) (nI p) (nI g) := by
  have a1 : ¬ nI g = 12 := fun z => h12 ((nI_eq (b := 12) (by omega) (by decide)).mp z)
  have a2 : ¬ nI g = 14 := fun z => h14 ((nI_eq (b := 14) (by omega) (by decide)).mp z)
  have a3 : ¬ nI g = 15 := fun z => h15 ((nI_eq (b := 15) (by omega) (by decide)).mp z)
  unfold wpX_dropOpposites
  refine br_f a1 (br_f a3 ?_)
  exact br_f a2 h
theorem sx_remove_l {post : St2 → Prop} {p l j : Nat} (hp : p < 4) (hl : l + 1 ≤ 8) (h : post (nI np, nI nd, ls, et, nI es, co, ca, pc, ra, rb, sp, mk, dp, fc, fa, fb, fm, sl, st, lf, su, pg, ss, upd ql p (nI l), sk_shf qs (p * 8 + j) (l - j), sk_shf qr (p * 8 + j) (l - j), hd, fl, ek, ep, ev, er)) : ∀ d i, j + i + d = l → wX_removeEntry_18 post (nI p) (nI (p * 8)) (nI l) (nI np) (nI nd) ls et (nI es) (d + 1) (nI (j + i)) co ca pc ra rb sp mk dp fc fa fb fm sl st lf su pg ss ql (sk_shf qs (p * 8 + j) i) (sk_shf qr (p * 8 + j) i) hd fl ek ep ev er := by
  have e1 : vp_in (nI p) 4 := vp_in_nI hp (by decide)
  have e2 : (nI p).toNatClampNeg = p := nI_clamp (by omega)
  intro d
  induction d with
  | zero =>
    intro i hi
    have hi' : i = l - j := by omega
    subst hi'
    have z : nI l ≤ nI (j + (l - j)) := nI_le (by omega) (by omega)
    rw [wX_removeEntry_18]
    simp only [z, e1, e2, true_implies, false_implies, not_true_eq_false, not_false_eq_true, and_true, true_and, forall_eq, implies_true]
    exact h
  | succ d ih =>
    intro i hi
    have z : ¬ nI l ≤ nI (j + i) := nI_ge (by omega) (by omega)
    have e3 : vp_in (nI (p * 8 + j + i)) 32 := vp_in_nI (by omega) (by decide)
    have e4 : (nI (p * 8 + j + i)).toNatClampNeg = p * 8 + j + i := nI_clamp (by omega)
    have e5 : vp_in (nI (p * 8 + j + i + 1)) 32 := vp_in_nI (by omega) (by decide)
    have e6 : (nI (p * 8 + j + i + 1)).toNatClampNeg = p * 8 + j + i + 1 := nI_clamp (by omega)
    have e7 : nI (p * 8) + nI (j + i) = nI (p * 8 + j + i) := by rw [nI_add, Nat.add_assoc]
    rw [wX_removeEntry_18]
    simp only [z, e7, nI_1, e3, e4, e5, e6, true_implies, false_implies, not_true_eq_false, not_false_eq_true, and_true, true_and, forall_eq, implies_true]
    exact ih (i + 1) (by omega)
theorem sx_remove {post : St2 → Prop} {p l j : Nat} (hp : p < 4) (hl : l + 1 ≤ 8) (e : ql p = nI (l + 1)) (hj : j ≤ l) (h : post (nI np, nI nd, ls, et, nI es, co, ca, pc, ra, rb, sp, mk, dp, fc, fa, fb, fm, sl, st, lf, su, pg, ss, upd ql p (nI l), sk_shf qs (p * 8 + j) (l - j), sk_shf qr (p * 8 + j) (l - j), hd, fl, ek, ep, ev, er)) : wpX_removeEntry post (nI np, nI nd, ls, et, nI es, co, ca, pc, ra, rb, sp, mk, dp, fc, fa, fb, fm, sl, st, lf, su, pg, ss, ql, qs, qr, hd, fl, ek, ep, ev, er) (nI p) (nI j) := by
  have e1 : vp_in (nI p) 4 := vp_in_nI hp (by decide)
  have e2 : (nI p).toNatClampNeg = p := nI_clamp (by omega)
  have e3 : nI p * 8 = nI (p * 8) := pk_mul p 8
  simp only [wpX_removeEntry, e1, e2, e, e3, nI_pred, true_implies, false_implies, not_true_eq_false, not_false_eq_true, and_true, true_and, forall_eq, implies_true]
  exact ⟨l - j + 1, sx_remove_l hp hl h (l - j) 0 (by omega)⟩
/-- a pending word joined with the queue's first n signals -/
def sk_orq (m : Int32) (qs : Nat → Int32) (b : Nat) : Nat → Int32
  | 0 => m
  | n + 1 => sk_orq m qs b n ||| ((1 : Int32) <<< (qs (b + n) &&& 31))
theorem sx_allp_l {post : Int32 → Prop} {p l : Nat} (hp : p < 4) (hl : l ≤ 8) (e : ql p = nI l) (m : Int32) (h : post (sk_orq m qs (p * 8) l)) : ∀ d i, i + d = l → wX_allPending_9 post (nI p) (nI np) (nI nd) ls et (nI es) co ca pc ra rb sp mk dp fc fa fb fm sl st lf su pg ss ql qs qr hd fl ek ep ev er (d + 1) (sk_orq m qs (p * 8) i) (nI i) := by
  have e1 : vp_in (nI p) 4 := vp_in_nI hp (by decide)
  have e2 : (nI p).toNatClampNeg = p := nI_clamp (by omega)
  intro d
  induction d with
  | zero =>
    intro i hi
    have hi' : i = l := by omega
    subst hi'
    have z : nI i ≤ nI i := nI_le (by omega) (by omega)
    rw [wX_allPending_9]
    simp only [e1, e2, e, z, true_implies, false_implies, not_true_eq_false, not_false_eq_true, and_true, true_and, forall_eq, implies_true]
    exact h
  | succ d ih =>
    intro i hi
    have z : ¬ nI l ≤ nI i := nI_ge (by omega) (by omega)
    have e3 : vp_in (nI (p * 8 + i)) 32 := vp_in_nI (by omega) (by decide)
    have e4 : (nI (p * 8 + i)).toNatClampNeg = p * 8 + i := nI_clamp (by omega)
    rw [wX_allPending_9]
    simp only [e1, e2, e, z, sk_ix8, e3, e4, nI_1, true_implies, false_implies, not_true_eq_false, not_false_eq_true, and_true, true_and, forall_eq, implies_true]
    exact ih (i + 1) (by omega)
theorem sx_allp {post : Int32 → Prop} {p l : Nat} (hp : p < 4) (hl : l ≤ 8) (e : ql p = nI l) (h : post (sk_orq (pg p) qs (p * 8) l)) : wpX_allPending post (nI np, nI nd, ls, et, nI es, co, ca, pc, ra, rb, sp, mk, dp, fc, fa, fb, fm, sl, st, lf, su, pg, ss, ql, qs, qr, hd, fl, ek, ep, ev, er) (nI p) := by
  have e1 : vp_in (nI p) 4 := vp_in_nI hp (by decide)
  have e2 : (nI p).toNatClampNeg = p := nI_clamp (by omega)
  simp only [wpX_allPending, e1, e2, true_implies, false_implies, not_true_eq_false, not_false_eq_true, and_true, true_and, forall_eq, implies_true]
  exact ⟨l + 1, sx_allp_l hp hl e (pg p) h l 0 (by omega)⟩
theorem sx_low_l {post : Int32 → Prop} {x : Int32} {g : Nat} (hg : g < 16) (hx : ¬ x &&& ((1 : Int32) <<< (nI g &&& 31)) = 0) (h : post (nI g)) : ∀ d i, i + d = g → (∀ j, i ≤ j → j < g → x &&& ((1 : Int32) <<< (nI j &&& 31)) = 0) → wX_lowestDeliverable_18 post x (nI np) (nI nd) ls et (nI es) co ca pc ra rb sp mk dp fc fa fb fm sl st lf su pg ss ql qs qr hd fl ek ep ev er (d + 1) (nI i) := by
  intro d
  induction d with
  | zero =>
    intro i hi _
    have hi' : i = g := by omega
    subst hi'
    have z : ¬ (16 : Int32) ≤ nI i := nI_ge (b := 16) (by omega) (by decide)
    rw [wX_lowestDeliverable_18]
    exact br_f z (br_f hx h)
  | succ d ih =>
    intro i hi hj
    have z : ¬ (16 : Int32) ≤ nI i := nI_ge (b := 16) (by omega) (by decide)
    rw [wX_lowestDeliverable_18]
    refine br_f z (br_t (hj i (by omega) (by omega)) (nm_r (nI_1 i) ?_))
    exact ih (i + 1) (by omega) fun j h1 h2 => hj j (by omega) h2
theorem sx_low0_l {post : Int32 → Prop} {x : Int32} (h : post 0) : ∀ d i, i + d = 16 → (∀ j, i ≤ j → j < 16 → x &&& ((1 : Int32) <<< (nI j &&& 31)) = 0) → wX_lowestDeliverable_18 post x (nI np) (nI nd) ls et (nI es) co ca pc ra rb sp mk dp fc fa fb fm sl st lf su pg ss ql qs qr hd fl ek ep ev er (d + 1) (nI i) := by
  intro d
  induction d with
  | zero =>
    intro i hi _
    have hi' : i = 16 := by omega
    subst hi'
    rw [wX_lowestDeliverable_18]
    exact br_t (by decide) h
  | succ d ih =>
    intro i hi hj
    have z : ¬ (16 : Int32) ≤ nI i := nI_ge (b := 16) (by omega) (by decide)
    rw [wX_lowestDeliverable_18]
    refine br_f z (br_t (hj i (by omega) (by omega)) (nm_r (nI_1 i) ?_))
    exact ih (i + 1) (by omega) fun j h1 h2 => hj j (by omega) h2
theorem sx_low {post : Int32 → Prop} {p g : Nat} (hp : p < 4) (h1 : 1 ≤ g) (hg : g < 16) (hx : ¬ (pg p &&& (mk p ^^^ (-1))) &&& ((1 : Int32) <<< (nI g &&& 31)) = 0) (hj : ∀ j, 1 ≤ j → j < g → (pg p &&& (mk p ^^^ (-1))) &&& ((1 : Int32) <<< (nI j &&& 31)) = 0) (h : post (nI g)) : wpX_lowestDeliverable post (nI np, nI nd, ls, et, nI es, co, ca, pc, ra, rb, sp, mk, dp, fc, fa, fb, fm, sl, st, lf, su, pg, ss, ql, qs, qr, hd, fl, ek, ep, ev, er) (nI p) := by
  have e1 : vp_in (nI p) 4 := vp_in_nI hp (by decide)
  have e2 : (nI p).toNatClampNeg = p := nI_clamp (by omega)
  simp only [wpX_lowestDeliverable, e1, e2, true_implies, false_implies, not_true_eq_false, not_false_eq_true, and_true, true_and, forall_eq, implies_true]
  exact ⟨g - 1 + 1, sx_low_l hg hx h (g - 1) 1 (by omega) hj⟩
theorem sx_low0 {post : Int32 → Prop} {p : Nat} (hp : p < 4) (hj : ∀ j, 1 ≤ j → j < 16 → (pg p &&& (mk p ^^^ (-1))) &&& ((1 : Int32) <<< (nI j &&& 31)) = 0) (h : post 0) : wpX_lowestDeliverable post (nI np, nI nd, ls, et, nI es, co, ca, pc, ra, rb, sp, mk, dp, fc, fa, fb, fm, sl, st, lf, su, pg, ss, ql, qs, qr, hd, fl, ek, ep, ev, er) (nI p) := by
  have e1 : vp_in (nI p) 4 := vp_in_nI hp (by decide)
  have e2 : (nI p).toNatClampNeg = p := nI_clamp (by omega)
  simp only [wpX_lowestDeliverable, e1, e2, true_implies, false_implies, not_true_eq_false, not_false_eq_true, and_true, true_and, forall_eq, implies_true]
  exact ⟨16, sx_low0_l h 15 1 (by omega) hj⟩
theorem sx_ear_l {post : Int32 → Prop} {p l g : Nat} (hp : p < 4) (hl : l ≤ 8) (e : ql p = nI l) (hg : g < l) (hx : mk p &&& ((1 : Int32) <<< (qs (p * 8 + g) &&& 31)) = 0) (h : post (nI g)) : ∀ d i, i + d = g → (∀ j, i ≤ j → j < g → ¬ mk p &&& ((1 : Int32) <<< (qs (p * 8 + j) &&& 31)) = 0) → wX_earliestDeliverable_2 post (nI p) (nI np) (nI nd) ls et (nI es) co ca pc ra rb sp mk dp fc fa fb fm sl st lf su pg ss ql qs qr hd fl ek ep ev er (d + 1) (nI i) := by
  have e1 : vp_in (nI p) 4 := vp_in_nI hp (by decide)
  have e2 : (nI p).toNatClampNeg = p := nI_clamp (by omega)
  intro d
  induction d with
  | zero =>
    intro i hi _
    have hi' : i = g := by omega
    subst hi'
    have z : ¬ nI l ≤ nI i := nI_ge (by omega) (by omega)
    have e3 : vp_in (nI (p * 8 + i)) 32 := vp_in_nI (by omega) (by decide)
    have e4 : (nI (p * 8 + i)).toNatClampNeg = p * 8 + i := nI_clamp (by omega)
    rw [wX_earliestDeliverable_2]
    simp only [e1, e2, e, z, sk_ix8, e3, e4, hx, true_implies, false_implies, not_true_eq_false, not_false_eq_true, and_true, true_and, forall_eq, implies_true]
    exact h
  | succ d ih =>
    intro i hi hj
    have z : ¬ nI l ≤ nI i := nI_ge (by omega) (by omega)
    have e3 : vp_in (nI (p * 8 + i)) 32 := vp_in_nI (by omega) (by decide)
    have e4 : (nI (p * 8 + i)).toNatClampNeg = p * 8 + i := nI_clamp (by omega)
    have e5 := hj i (by omega) (by omega)
    rw [wX_earliestDeliverable_2]
    simp only [e1, e2, e, z, sk_ix8, e3, e4, e5, nI_1, true_implies, false_implies, not_true_eq_false, not_false_eq_true, and_true, true_and, forall_eq, implies_true]
    exact ih (i + 1) (by omega) fun j h1 h2 => hj j (by omega) h2
theorem sx_ear0_l {post : Int32 → Prop} {p l : Nat} (hp : p < 4) (hl : l ≤ 8) (e : ql p = nI l) (h : post (-1)) : ∀ d i, i + d = l → (∀ j, i ≤ j → j < l → ¬ mk p &&& ((1 : Int32) <<< (qs (p * 8 + j) &&& 31)) = 0) → wX_earliestDeliverable_2 post (nI p) (nI np) (nI nd) ls et (nI es) co ca pc ra rb sp mk dp fc fa fb fm sl st lf su pg ss ql qs qr hd fl ek ep ev er (d + 1) (nI i) := by
  have e1 : vp_in (nI p) 4 := vp_in_nI hp (by decide)
  have e2 : (nI p).toNatClampNeg = p := nI_clamp (by omega)
  intro d
  induction d with
  | zero =>
    intro i hi _
    have hi' : i = l := by omega
    subst hi'
    have z : nI i ≤ nI i := nI_le (by omega) (by omega)
    rw [wX_earliestDeliverable_2]
    simp only [e1, e2, e, z, true_implies, false_implies, not_true_eq_false, not_false_eq_true, and_true, true_and, forall_eq, implies_true]
    exact h
  | succ d ih =>
    intro i hi hj
    have z : ¬ nI l ≤ nI i := nI_ge (by omega) (by omega)
    have e3 : vp_in (nI (p * 8 + i)) 32 := vp_in_nI (by omega) (by decide)
    have e4 : (nI (p * 8 + i)).toNatClampNeg = p * 8 + i := nI_clamp (by omega)
    have e5 := hj i (by omega) (by omega)
    rw [wX_earliestDeliverable_2]
    simp only [e1, e2, e, z, sk_ix8, e3, e4, e5, nI_1, true_implies, false_implies, not_true_eq_false, not_false_eq_true, and_true, true_and, forall_eq, implies_true]
    exact ih (i + 1) (by omega) fun j h1 h2 => hj j (by omega) h2
end
end
section
section
variable {np nd es : Nat} {ls et : Int32} {co ca pc ra rb sp mk dp fc fa fb fm sl st lf su pg pn ss ql qs qr hd fl ek ep ev er : Nat → Int32}
/-! X: acting on one signal -/
theorem sx_push {post : St2 → Prop} {p d : Nat} {r c a : Int32} (hp : p < 4) (hd4 : d < 4) (e : dp p = nI d) (hca : (0 < sl p ∧ r = 0 ∧ c = pc p + 1 ∧ a = -4) ∨ (¬ (0 < sl p ∧ r = 0) ∧ c = pc p ∧ a = ra p)) (h : post (nI np, nI nd, ls, et, nI es, co, ca, pc, ra, rb, upd sp p (sp p - 4), mk, upd dp p (nI (d + 1)), upd fc (p * 4 + d) c, upd fa (p * 4 + d) a, upd fb (p * 4 + d) (rb p), upd fm (p * 4 + d) (mk p), upd sl p 0, st, lf, su, pg, ss, ql, qs, qr, hd, fl, ek, ep, ev, er)) : wpX_pushFrame post (nI np, nI nd, ls, et, nI es, co, ca, pc, ra, rb, sp, mk, dp, fc, fa, fb, fm, sl, st, lf, su, pg, ss, ql, qs, qr, hd, fl, ek, ep, ev, er) (nI p) r := by
  have e1 : vp_in (nI p) 4 := vp_in_nI hp (by decide)
  have e2 : (nI p).toNatClampNeg = p := nI_clamp (by omega)
  have e3 : vp_in (nI (p * 4 + d)) 16 := vp_in_nI (by omega) (by decide)
  have e4 : (nI (p * 4 + d)).toNatClampNeg = p * 4 + d := nI_clamp (by omega)
  have n1 : ¬ (1 : Int32) = 0 := by decide
  rcases hca with ⟨z, rfl, rfl, rfl⟩ | ⟨z, rfl, rfl⟩
  · have z' : ¬ sl p ≤ 0 := Int32.not_le.mpr z
    simp only [wpX_pushFrame, wX_pushFrame_18, wX_pushFrame_65, wX_pushFrame_87, e1, e2, e, z', n1, sk_ix4, e3, e4, nI_1, true_implies, false_implies, not_true_eq_false, not_false_eq_true, and_true, true_and, forall_eq, implies_true]
    exact h
  · by_cases y : sl p ≤ 0
    · simp only [wpX_pushFrame, wX_pushFrame_17, wX_pushFrame_18, wX_pushFrame_65, wX_pushFrame_87, e1, e2, e, y, sk_ix4, e3, e4, nI_1, true_implies, false_implies, not_true_eq_false, not_false_eq_true, and_true, true_and, forall_eq, implies_true]
      exact h
    · have y2 : ¬ r = 0 := fun w => z ⟨Int32.not_le.mp y, w⟩
      simp only [wpX_pushFrame, wX_pushFrame_17, wX_pushFrame_18, wX_pushFrame_65, wX_pushFrame_87, e1, e2, e, y, y2, sk_ix4, e3, e4, nI_1, true_implies, false_implies, not_true_eq_false, not_false_eq_true, and_true, true_and, forall_eq, implies_true]
      exact h
theorem sx_e69 {post : St2 → Prop} {p j : Nat} {x2 s x5 f : Int32} (hp : p < 4) (hj : j < 128) (hs : es ≤ 128) (h : post (nI np, nI nd, ls, et + 1, nI (sk_lgN es), co, ca, upd pc p x5, upd ra p x2, upd rb p s, sp, mk, dp, fc, fa, fb, fm, sl, st, lf, su, pg, ss, ql, qs, qr, sk_hdH hd j f, sk_flH fl j f, sk_lgA ek es 1, sk_lgA ep es (nI p), sk_lgA ev es x2, sk_lgA er es s)) : wX_enterHandler_69 post (nI p) x2 s (nI j) x5 f (nI np) (nI nd) ls et (nI es) co ca pc ra rb sp mk dp fc fa fb fm sl st lf su pg ss ql qs qr hd fl ek ep ev er := by
  have e1 : vp_in (nI p) 4 := vp_in_nI hp (by decide)
  have e2 : (nI p).toNatClampNeg = p := nI_clamp (by omega)
  have e3 : vp_in (nI j) 128 := vp_in_nI hj (by decide)
  have e4 : (nI j).toNatClampNeg = j := nI_clamp (by omega)
  by_cases f4 : f &&& 4 = 0
  · simp only [sk_hdH, sk_flH, if_pos f4] at h
    simp only [wX_enterHandler_69, e1, e2, f4, true_implies, false_implies, not_true_eq_false, not_false_eq_true, and_true, true_and, forall_eq, implies_true]
    unfold wX_enterHandler_114
    refine sx_log hs ?_
    exact h
  · simp only [sk_hdH, sk_flH, if_neg f4] at h
    simp only [wX_enterHandler_69, e1, e2, e3, e4, f4, true_implies, false_implies, not_true_eq_false, not_false_eq_true, and_true, true_and, forall_eq, implies_true]
    unfold wX_enterHandler_114
    refine sx_log hs ?_
    exact h
theorem sx_e40 {post : St2 → Prop} {p g d : Nat} {s x5 f r : Int32} (hp : p < 4) (hg : g < 32) (hd4 : d < 4) (e : dp p = nI d) (hs : es ≤ 128) (hr : r = 0 ↔ f &&& 1 = 0)
    (h : post (nI np, nI nd, ls, et + 1, nI (sk_lgN es), co, ca, upd pc p x5, upd ra p (nI g), upd rb p s, upd sp p (sp p - 4), sk_mkH mk p g f, upd dp p (nI (d + 1)), upd fc (p * 4 + d) (sk_itC sl pc p f), upd fa (p * 4 + d) (sk_itA sl ra p f), upd fb (p * 4 + d) (rb p), upd fm (p * 4 + d) (mk p), upd sl p 0, st, lf, su, pg, ss, ql, qs, qr, sk_hdH hd (p * 32 + g) f, sk_flH fl (p * 32 + g) f, sk_lgA ek es 1, sk_lgA ep es (nI p), sk_lgA ev es (nI g), sk_lgA er es s)) : wX_enterHandler_40 post (nI p) (nI g) s (nI (p * 32 + g)) x5 f r (nI p) (nI np) (nI nd) ls et (nI es) co ca pc ra rb sp mk dp fc fa fb fm sl st lf su pg ss ql qs qr hd fl ek ep ev er := by
  have e1 : vp_in (nI p) 4 := vp_in_nI hp (by decide)
  have e2 : (nI p).toNatClampNeg = p := nI_clamp (by omega)
  have hca : (0 < sl p ∧ r = 0 ∧ sk_itC sl pc p f = pc p + 1 ∧ sk_itA sl ra p f = -4) ∨ (¬ (0 < sl p ∧ r = 0) ∧ sk_itC sl pc p f = pc p ∧ sk_itA sl ra p f = ra p) := by
    by_cases z : 0 < sl p ∧ f &&& 1 = 0
    · exact Or.inl ⟨z.1, hr.mpr z.2, if_pos z, if_pos z⟩
    · exact Or.inr ⟨fun y => z ⟨y.1, hr.mp y.2⟩, if_neg z, if_neg z⟩
  unfold wX_enterHandler_40
  refine sx_push hp hd4 e hca ?_
  by_cases f2 : f &&& 2 = 0
  · simp only [sk_mkH, if_pos f2] at h
    refine br_t f2 ⟨e1, e1, nm_r (by rw [e2]) ?_⟩
    exact sx_e69 hp (by omega) hs h
  · simp only [sk_mkH, if_neg f2] at h
    refine br_f f2 ?_
    exact sx_e69 hp (by omega) hs h
theorem sx_enter {post : St2 → Prop} {p g d : Nat} {s : Int32} (hp : p < 4) (hg : g < 32) (hd4 : d < 4) (e : dp p = nI d) (hs : es ≤ 128) (h : post (nI np, nI nd, ls, et + 1, nI (sk_lgN es), co, ca, upd pc p (hd (p * 32 + g)), upd ra p (nI g), upd rb p s, upd sp p (sp p - 4), sk_mkH mk p g (fl (p * 32 + g)), upd dp p (nI (d + 1)), upd fc (p * 4 + d) (sk_itC sl pc p (fl (p * 32 + g))), upd fa (p * 4 + d) (sk_itA sl ra p (fl (p * 32 + g))), upd fb (p * 4 + d) (rb p), upd fm (p * 4 + d) (mk p), upd sl p 0, st, lf, su, pg, ss, ql, qs, qr, sk_hdH hd (p * 32 + g) (fl (p * 32 + g)), sk_flH fl (p * 32 + g) (fl (p * 32 + g)), sk_lgA ek es 1, sk_lgA ep es (nI p), sk_lgA ev es (nI g), sk_lgA er es s)) : wpX_enterHandler post (nI np, nI nd, ls, et, nI es, co, ca, pc, ra, rb, sp, mk, dp, fc, fa, fb, fm, sl, st, lf, su, pg, ss, ql, qs, qr, hd, fl, ek, ep, ev, er) (nI p) (nI g) s := by
  have e3 : vp_in (nI (p * 32 + g)) 128 := vp_in_nI (by omega) (by decide)
  have e4 : (nI (p * 32 + g)).toNatClampNeg = p * 32 + g := nI_clamp (by omega)
  simp only [wpX_enterHandler, sk_ix32, e3, e4, true_implies, false_implies, not_true_eq_false, not_false_eq_true, and_true, true_and, forall_eq, implies_true]
  refine br_c (fun f1 => ?_) (fun f1 => ?_)
  · exact sx_e40 hp hg hd4 e hs ⟨fun _ => f1, fun _ => rfl⟩ h
  · exact sx_e40 hp hg hd4 e hs ⟨fun z => absurd z (by decide), fun z => absurd z f1⟩ h
theorem sx_71 {post : St2 → Prop} {p g s : Int32} (hs : es ≤ 128) (h : post (nI np, nI nd, ls, et + 1, nI (sk_lgN es), co, ca, pc, ra, rb, sp, mk, dp, fc, fa, fb, fm, sl, st, lf, su, pg, ss, ql, qs, qr, hd, fl, sk_lgA ek es 4, sk_lgA ep es p, sk_lgA ev es g, sk_lgA er es s)) : wX_act_71 post p g s (nI np) (nI nd) ls et (nI es) co ca pc ra rb sp mk dp fc fa fb fm sl st lf su pg ss ql qs qr hd fl ek ep ev er := by
  unfold wX_act_71
  refine sx_log hs ?_
  exact h
theorem sx_94 {post : St2 → Prop} {p : Nat} {g s : Int32} (hp : p < 4) (hs : es ≤ 128) (h : post (nI np, nI nd, ls, et + 1, nI (sk_lgN es), co, ca, pc, ra, rb, sp, mk, dp, fc, fa, fb, fm, sl, upd st p 1, lf, su, pg, ss, ql, qs, qr, hd, fl, sk_lgA ek es 3, sk_lgA ep es (nI p), sk_lgA ev es g, sk_lgA er es s)) : wX_act_94 post (nI p) g s (nI np) (nI nd) ls et (nI es) co ca pc ra rb sp mk dp fc fa fb fm sl st lf su pg ss ql qs qr hd fl ek ep ev er := by
  have e1 : vp_in (nI p) 4 := vp_in_nI hp (by decide)
  have e2 : (nI p).toNatClampNeg = p := nI_clamp (by omega)
  unfold wX_act_94
  refine ⟨e1, nm_r (by rw [e2]) ?_⟩
  refine sx_log hs ?_
  exact h
theorem sx_act_m2 {post : St2 → Prop} {p g : Nat} {s : Int32} (hp : p < 4) (hg : g < 32) (he : hd (p * 32 + g) = -2) (hs : es ≤ 128) (h : post (nI np, nI nd, ls, et + 1, nI (sk_lgN es), co, ca, pc, ra, rb, sp, mk, dp, fc, fa, fb, fm, sl, st, lf, su, pg, ss, ql, qs, qr, hd, fl, sk_lgA ek es 4, sk_lgA ep es (nI p), sk_lgA ev es (nI g), sk_lgA er es s)) : wpX_act post (nI np, nI nd, ls, et, nI es, co, ca, pc, ra, rb, sp, mk, dp, fc, fa, fb, fm, sl, st, lf, su, pg, ss, ql, qs, qr, hd, fl, ek, ep, ev, er) (nI p) (nI g) s := by
  have e3 : vp_in (nI p * 32 + nI g) 128 := by rw [sk_ix32]; exact vp_in_nI (by omega) (by decide)
  have e4 : hd (nI p * 32 + nI g).toNatClampNeg = hd (p * 32 + g) := by rw [sk_ix32, nI_clamp (by omega)]
  unfold wpX_act
  refine ⟨e3, nm_r (e4.trans he) (br_t (by decide) (br_t rfl ?_))⟩
  exact sx_71 hs h
theorem sx_act_13 {post : St2 → Prop} {p : Nat} {s : Int32} (hp : p < 4) (he : hd (p * 32 + 13) = -1) (hs : es ≤ 128) (h : post (nI np, nI nd, ls, et + 1, nI (sk_lgN es), co, ca, pc, ra, rb, sp, mk, dp, fc, fa, fb, fm, sl, st, lf, su, pg, ss, ql, qs, qr, hd, fl, sk_lgA ek es 4, sk_lgA ep es (nI p), sk_lgA ev es (nI 13), sk_lgA er es s)) : wpX_act post (nI np, nI nd, ls, et, nI es, co, ca, pc, ra, rb, sp, mk, dp, fc, fa, fb, fm, sl, st, lf, su, pg, ss, ql, qs, qr, hd, fl, ek, ep, ev, er) (nI p) (nI 13) s := by
  have e3 : vp_in (nI p * 32 + nI 13) 128 := by rw [sk_ix32]; exact vp_in_nI (by omega) (by decide)
  have e4 : hd (nI p * 32 + nI 13).toNatClampNeg = hd (p * 32 + 13) := by rw [sk_ix32, nI_clamp (by omega)]
  unfold wpX_act
  refine ⟨e3, nm_r (e4.trans he) (br_t (by decide) (br_f (by decide) (br_t rfl ?_)))⟩
  exact sx_71 hs h
theorem sx_act_14 {post : St2 → Prop} {p : Nat} {s : Int32} (hp : p < 4) (he : hd (p * 32 + 14) = -1) (hs : es ≤ 128) (h : post (nI np, nI nd, ls, et + 1, nI (sk_lgN es), co, ca, pc, ra, rb, sp, mk, dp, fc, fa, fb, fm, sl, st, lf, su, pg, ss, ql, qs, qr, hd, fl, sk_lgA ek es 4, sk_lgA ep es (nI p), sk_lgA ev es (nI 14), sk_lgA er es s)) : wpX_act post (nI np, nI nd, ls, et, nI es, co, ca, pc, ra, rb, sp, mk, dp, fc, fa, fb, fm, sl, st, lf, su, pg, ss, ql, qs, qr, hd, fl, ek, ep, ev, er) (nI p) (nI 14) s := by
  have e3 : vp_in (nI p * 32 + nI 14) 128 := by rw [sk_ix32]; exact vp_in_nI (by omega) (by decide)
  have e4 : hd (nI p * 32 + nI 14).toNatClampNeg = hd (p * 32 + 14) := by rw [sk_ix32, nI_clamp (by omega)]
  unfold wpX_act
  refine ⟨e3, nm_r (e4.trans he) (br_t (by decide) (br_f (by decide) (br_f (by decide) (br_t rfl ?_))))⟩
  exact sx_71 hs h
theorem sx_act_12 {post : St2 → Prop} {p : Nat} {s : Int32} (hp : p < 4) (he : hd (p * 32 + 12) = -1) (hs : es ≤ 128) (h : post (nI np, nI nd, ls, et + 1, nI (sk_lgN es), co, ca, pc, ra, rb, sp, mk, dp, fc, fa, fb, fm, sl, upd st p 1, lf, su, pg, ss, ql, qs, qr, hd, fl, sk_lgA ek es 3, sk_lgA ep es (nI p), sk_lgA ev es (nI 12), sk_lgA er es s)) : wpX_act post (nI np, nI nd, ls, et, nI es, co, ca, pc, ra, rb, sp, mk, dp, fc, fa, fb, fm, sl, st, lf, su, pg, ss, ql, qs, qr, hd, fl, ek, ep, ev, er) (nI p) (nI 12) s := by
  have e3 : vp_in (nI p * 32 + nI 12) 128 := by rw [sk_ix32]; exact vp_in_nI (by omega) (by decide)
  have e4 : hd (nI p * 32 + nI 12).toNatClampNeg = hd (p * 32 + 12) := by rw [sk_ix32, nI_clamp (by omega)]
  unfold wpX_act
  refine ⟨e3, nm_r (e4.trans he) (br_t (by decide) (br_f (by decide) (br_f (by decide) (br_f (by decide) (br_t rfl ?_)))))⟩
  exact sx_94 hp hs h
theorem sx_act_15 {post : St2 → Prop} {p : Nat} {s : Int32} (hp : p < 4) (he : hd (p * 32 + 15) = -1) (hs : es ≤ 128) (h : post (nI np, nI nd, ls, et + 1, nI (sk_lgN es), co, ca, pc, ra, rb, sp, mk, dp, fc, fa, fb, fm, sl, upd st p 1, lf, su, pg, ss, ql, qs, qr, hd, fl, sk_lgA ek es 3, sk_lgA ep es (nI p), sk_lgA ev es (nI 15), sk_lgA er es s)) : wpX_act post (nI np, nI nd, ls, et, nI es, co, ca, pc, ra, rb, sp, mk, dp, fc, fa, fb, fm, sl, st, lf, su, pg, ss, ql, qs, qr, hd, fl, ek, ep, ev, er) (nI p) (nI 15) s := by
  have e3 : vp_in (nI p * 32 + nI 15) 128 := by rw [sk_ix32]; exact vp_in_nI (by omega) (by decide)
  have e4 : hd (nI p * 32 + nI 15).toNatClampNeg = hd (p * 32 + 15) := by rw [sk_ix32, nI_clamp (by omega)]
  unfold wpX_act
  refine ⟨e3, nm_r (e4.trans he) (br_t (by decide) (br_f (by decide) (br_f (by decide) (br_f (by decide) (br_f (by decide) (br_t rfl ?_))))))⟩
  exact sx_94 hp hs h
theorem sx_act_die {post : St2 → Prop} {p g : Nat} {s : Int32} (hp : p < 4) (hg : g < 32) (h12 : g ≠ 12) (h13 : g ≠ 13) (h14 : g ≠ 14) (h15 : g ≠ 15) (he : hd (p * 32 + g) = -1) (hs : es ≤ 128) (h : post (nI np, nI nd, ls, et + 1, nI (sk_lgN es), co, ca, pc, ra, rb, sp, mk, dp, fc, fa, fb, fm, upd sl p 0, upd st p 0, upd lf p 4, upd su p (nI g), upd pg p 0, sk_clr ss (p * 16) 16, upd ql p 0, qs, qr, hd, fl, sk_lgA ek es 2, sk_lgA ep es (nI p), sk_lgA ev es (nI g), sk_lgA er es s)) : wpX_act post (nI np, nI nd, ls, et, nI es, co, ca, pc, ra, rb, sp, mk, dp, fc, fa, fb, fm, sl, st, lf, su, pg, ss, ql, qs, qr, hd, fl, ek, ep, ev, er) (nI p) (nI g) s := by
  have a12 : ¬ nI g = 12 := fun z => absurd ((nI_eq (b := 12) (by omega) (by decide)).mp z) (by omega)
  have a13 : ¬ nI g = 13 := fun z => absurd ((nI_eq (b := 13) (by omega) (by decide)).mp z) (by omega)
  have a14 : ¬ nI g = 14 := fun z => absurd ((nI_eq (b := 14) (by omega) (by decide)).mp z) (by omega)
  have a15 : ¬ nI g = 15 := fun z => absurd ((nI_eq (b := 15) (by omega) (by decide)).mp z) (by omega)
  have e3 : vp_in (nI p * 32 + nI g) 128 := by rw [sk_ix32]; exact vp_in_nI (by omega) (by decide)
  have e4 : hd (nI p * 32 + nI g).toNatClampNeg = hd (p * 32 + g) := by rw [sk_ix32, nI_clamp (by omega)]
  unfold wpX_act
  refine ⟨e3, nm_r (e4.trans he) (br_t (by decide) (br_f (by decide) (br_f a13 (br_f a14 (br_f a12 (br_f a15 ?_))))))⟩
  refine sx_term hp hs ?_
  exact h
theorem sx_act_over {post : St2 → Prop} {p g d : Nat} {s : Int32} (hp : p < 4) (hg : g < 32) (he : 0 ≤ hd (p * 32 + g)) (e : dp p = nI d) (hd4 : d ≤ 4) (hnd : nd ≤ d) (hs : es ≤ 128) (h : post (nI np, nI nd, ls, et + 1, nI (sk_lgN es), co, ca, pc, ra, rb, sp, mk, dp, fc, fa, fb, fm, upd sl p 0, upd st p 0, upd lf p 4, upd su p 11, upd pg p 0, sk_clr ss (p * 16) 16, upd ql p 0, qs, qr, hd, fl, sk_lgA ek es 2, sk_lgA ep es (nI p), sk_lgA ev es 11, sk_lgA er es s)) : wpX_act post (nI np, nI nd, ls, et, nI es, co, ca, pc, ra, rb, sp, mk, dp, fc, fa, fb, fm, sl, st, lf, su, pg, ss, ql, qs, qr, hd, fl, ek, ep, ev, er) (nI p) (nI g) s := by
  have e1 : vp_in (nI p) 4 := vp_in_nI hp (by decide)
  have e2 : (nI p).toNatClampNeg = p := nI_clamp (by omega)
  have e3 : vp_in (nI p * 32 + nI g) 128 := by rw [sk_ix32]; exact vp_in_nI (by omega) (by decide)
  have e4 : hd (nI p * 32 + nI g).toNatClampNeg = hd (p * 32 + g) := by rw [sk_ix32, nI_clamp (by omega)]
  unfold wpX_act
  refine ⟨e3, nm_r e4 (br_f (Int32.not_lt.mpr he) ⟨e1, br_t ?_ ?_⟩)⟩
  · rw [e2, e]; exact nI_le hnd (by omega)
  · refine sx_term hp hs ?_
    exact h
theorem sx_act_ent {post : St2 → Prop} {p g d : Nat} {s : Int32} (hp : p < 4) (hg : g < 32) (he : 0 ≤ hd (p * 32 + g)) (e : dp p = nI d) (hnd : nd ≤ 4) (hd4 : d < nd) (hs : es ≤ 128) (h : post (nI np, nI nd, ls, et + 1, nI (sk_lgN es), co, ca, upd pc p (hd (p * 32 + g)), upd ra p (nI g), upd rb p s, upd sp p (sp p - 4), sk_mkH mk p g (fl (p * 32 + g)), upd dp p (nI (d + 1)), upd fc (p * 4 + d) (sk_itC sl pc p (fl (p * 32 + g))), upd fa (p * 4 + d) (sk_itA sl ra p (fl (p * 32 + g))), upd fb (p * 4 + d) (rb p), upd fm (p * 4 + d) (mk p), upd sl p 0, st, lf, su, pg, ss, ql, qs, qr, sk_hdH hd (p * 32 + g) (fl (p * 32 + g)), sk_flH fl (p * 32 + g) (fl (p * 32 + g)), sk_lgA ek es 1, sk_lgA ep es (nI p), sk_lgA ev es (nI g), sk_lgA er es s)) : wpX_act post (nI np, nI nd, ls, et, nI es, co, ca, pc, ra, rb, sp, mk, dp, fc, fa, fb, fm, sl, st, lf, su, pg, ss, ql, qs, qr, hd, fl, ek, ep, ev, er) (nI p) (nI g) s := by
  have e1 : vp_in (nI p) 4 := vp_in_nI hp (by decide)
  have e2 : (nI p).toNatClampNeg = p := nI_clamp (by omega)
  have e3 : vp_in (nI p * 32 + nI g) 128 := by rw [sk_ix32]; exact vp_in_nI (by omega) (by decide)
  have e4 : hd (nI p * 32 + nI g).toNatClampNeg = hd (p * 32 + g) := by rw [sk_ix32, nI_clamp (by omega)]
  unfold wpX_act
  refine ⟨e3, nm_r e4 (br_f (Int32.not_lt.mpr he) ⟨e1, br_f ?_ ?_⟩)⟩
  · rw [e2, e]; exact nI_ge hd4 (by omega)
  · refine sx_enter hp hg (by omega) e hs ?_
    exact h
/-! Y: the same, behind the choice of the signal -/
/-! both: one signal acted on -/
end
theorem sk_sig (x : Int32) : (x < 1 ∨ 31 < x) ∨ ∃ g, 1 ≤ g ∧ g < 32 ∧ x = nI g := by
  rcases pk_ix x (n := 32) (by decide) with h | h | ⟨j, hj, rfl⟩
  · exact Or.inl (Or.inl (Int32.lt_trans h (by decide)))
  · exact Or.inl (Or.inr (Int32.lt_of_lt_of_le (by decide) h))
  · by_cases z : j = 0
    · subst z; exact Or.inl (Or.inl (by decide))
    · exact Or.inr ⟨j, by omega, hj, rfl⟩
theorem sx_sig1 {post : Int32 → Prop} {g : Nat} (h1 : 1 ≤ g) (hg : g < 32) (h : post 1) : wpX_isSignal post () (nI g) :=
  br_f (nI_nlt (b := 1) h1 (by omega)) (br_f (nI_nlt (a := 31) (by omega) (by decide)) h)
theorem sx_sig0 {post : Int32 → Prop} {x : Int32} (hx : x < 1 ∨ 31 < x) (h : post 0) : wpX_isSignal post () x :=
  br_c (fun _ => h) fun z => br_t (hx.resolve_left z) h
section
variable {np nd es : Nat} {ls et : Int32} {co ca pc ra rb sp mk dp fc fa fb fm sl st lf su pg pn ss ql qs qr hd fl ek ep ev er : Nat → Int32}
theorem sx_pid1 {post : Int32 → Prop} {p : Nat} (hp : p < np) (hn : np ≤ 4) (h : post 1) : wpX_isPid post (nI np, nI nd, ls, et, nI es, co, ca, pc, ra, rb, sp, mk, dp, fc, fa, fb, fm, sl, st, lf, su, pg, ss, ql, qs, qr, hd, fl, ek, ep, ev, er) (nI p) := by
  unfold wpX_isPid
  exact br_f (nI_pos (by omega)) (br_f (nI_ge hp (by omega)) h)
theorem sx_pid0 {post : Int32 → Prop} {x : Int32} (hx : x < 0 ∨ nI np ≤ x) (h : post 0) : wpX_isPid post (nI np, nI nd, ls, et, nI es, co, ca, pc, ra, rb, sp, mk, dp, fc, fa, fb, fm, sl, st, lf, su, pg, ss, ql, qs, qr, hd, fl, ek, ep, ev, er) x := by
  unfold wpX_isPid
  exact br_c (fun _ => h) fun z => br_t (hx.resolve_left z) h
theorem sx_al1 {post : Int32 → Prop} {p : Nat} (hp : p < np) (hn : np ≤ 4) (hl : lf p = 0) (h : post 1) : wpX_isAlive post (nI np, nI nd, ls, et, nI es, co, ca, pc, ra, rb, sp, mk, dp, fc, fa, fb, fm, sl, st, lf, su, pg, ss, ql, qs, qr, hd, fl, ek, ep, ev, er) (nI p) := by
  unfold wpX_isAlive
  refine sx_pid1 hp hn ?_
  exact br_f (by decide) ⟨vp_in_nI (by omega) (by decide), br_t (by rw [nI_clamp (by omega)]; exact hl) h⟩
theorem sx_al0 {post : Int32 → Prop} {x : Int32} (hx : x < 0 ∨ nI np ≤ x) (h : post 0) : wpX_isAlive post (nI np, nI nd, ls, et, nI es, co, ca, pc, ra, rb, sp, mk, dp, fc, fa, fb, fm, sl, st, lf, su, pg, ss, ql, qs, qr, hd, fl, ek, ep, ev, er) x := by
  unfold wpX_isAlive
  refine sx_pid0 hx ?_
  exact br_t rfl h
theorem sx_al2 {post : Int32 → Prop} {p : Nat} (hp : p < np) (hn : np ≤ 4) (hl : ¬ lf p = 0) (h : post 0) : wpX_isAlive post (nI np, nI nd, ls, et, nI es, co, ca, pc, ra, rb, sp, mk, dp, fc, fa, fb, fm, sl, st, lf, su, pg, ss, ql, qs, qr, hd, fl, ek, ep, ev, er) (nI p) := by
  unfold wpX_isAlive
  refine sx_pid1 hp hn ?_
  exact br_f (by decide) ⟨vp_in_nI (by omega) (by decide), br_f (by rw [nI_clamp (by omega)]; exact hl) h⟩
theorem sx_opp14 {post : St2 → Prop} {p : Nat} (hp : p < 4) (h : post (nI np, nI nd, ls, et, nI es, co, ca, pc, ra, rb, sp, mk, dp, fc, fa, fb, fm, sl, st, lf, su, upd (upd pg p (pg p &&& (((1 : Int32) <<< (nI 12 &&& 31)) ^^^ (-1)))) p ((upd pg p (pg p &&& (((1 : Int32) <<< (nI 12 &&& 31)) ^^^ (-1)))) p &&& (((1 : Int32) <<< (nI 15 &&& 31)) ^^^ (-1))), upd (upd ss (p * 16 + 12) 0) (p * 16 + 15) 0, ql, qs, qr, hd, fl, ek, ep, ev, er)) : wpX_dropOpposites post (nI np, nI nd, ls, et, nI es, co, ca, pc, ra, rb, sp, mk, dp, fc, fa, fb, fm, sl, st, lf, su, pg, ss, ql, qs, qr, hd, fl, ek, ep, ev, er) (nI p) 14 := by
  unfold wpX_dropOpposites
  refine br_f (by decide) (br_f (by decide) ?_)
  unfold wX_dropOpposites_19
  refine br_t rfl ?_
  refine sx_drop (s := 12) hp (by decide) ?_
  refine sx_drop (s := 15) hp (by decide) ?_
  exact h
end
theorem sk_dec {x : Int32} (h : ¬ x ≤ 0) : 0 ≤ x - 1 := by
  obtain ⟨j, hj, rfl⟩ := nI_of (x := x) (fun z => h (Int32.le_of_lt z))
  obtain ⟨m, rfl⟩ : ∃ m, j = m + 1 := ⟨j - 1, by
    have : j ≠ 0 := fun z => h (by subst z; decide)
    omega⟩
  rw [nI_pred]
  exact nI_pos' (by omega)
theorem sx_cell1 {post : Int32 → Prop} {c : Nat} (hc : c < 32) (h : post 1) : wpX_isCell post () (nI c) :=
  br_f (nI_pos (by omega)) (br_f (nI_ge (b := 32) hc (by decide)) h)
theorem sx_cell0 {post : Int32 → Prop} {x : Int32} (hx : x < 0 ∨ nI 32 ≤ x) (h : post 0) : wpX_isCell post () x :=
  br_c (fun _ => h) fun z => br_t (hx.resolve_left z) h
theorem sx_hd1 {post : Int32 → Prop} {x : Int32} (hx : x = -2 ∨ x = -1 ∨ ∃ j, j < 32 ∧ x = nI j) (h : post 1) : wpX_isHandler post () x := by
  refine br_c (fun _ => h) fun n1 => br_c (fun _ => h) fun n2 => ?_
  obtain ⟨j, hj, rfl⟩ := (hx.resolve_left n2).resolve_left n1
  exact sx_cell1 hj (br_f (by decide) h)
theorem sx_hd0 {post : Int32 → Prop} {x : Int32} (n1 : ¬ x = -1) (n2 : ¬ x = -2) (hx : x < 0 ∨ nI 32 ≤ x) (h : post 0) : wpX_isHandler post () x :=
  br_f n1 (br_f n2 (sx_cell0 hx (br_t rfl h)))
theorem sk_hd (x : Int32) : (x = -2 ∨ x = -1 ∨ ∃ j, j < 32 ∧ x = nI j) ∨ (¬ x = -1 ∧ ¬ x = -2 ∧ (x < 0 ∨ nI 32 ≤ x)) := by
  by_cases h2 : x = -2
  · exact Or.inl (Or.inl h2)
  by_cases h1 : x = -1
  · exact Or.inl (Or.inr (Or.inl h1))
  rcases pk_ix x (n := 32) (by decide) with h | h | h
  · exact Or.inr ⟨h1, h2, Or.inl h⟩
  · exact Or.inr ⟨h1, h2, Or.inr h⟩
  · exact Or.inl (Or.inr (Or.inr h))
theorem sx_cat1 {post : Int32 → Prop} {g : Nat} (h1 : 1 ≤ g) (hg : g < 32) (h9 : g ≠ 9) (h15 : g ≠ 15) (h : post 1) : wpX_isCatchable post () (nI g) := by
  have a9 : ¬ nI g = 9 := fun z => h9 ((nI_eq (b := 9) (by omega) (by decide)).mp z)
  have a15 : ¬ nI g = 15 := fun z => h15 ((nI_eq (b := 15) (by omega) (by decide)).mp z)
  unfold wpX_isCatchable
  refine sx_sig1 h1 hg ?_
  exact br_f (by decide) (br_f a9 (br_f a15 h))
/-- k is no signal that can be caught -/
def sk_nc (k : Int32) : Prop := (k < 1 ∨ 31 < k) ∨ k = 9 ∨ k = 15
theorem sk_cat (k : Int32) : sk_nc k ∨ ∃ g, 1 ≤ g ∧ g < 32 ∧ g ≠ 9 ∧ g ≠ 15 ∧ k = nI g := by
  rcases sk_sig k with h | ⟨g, h1, h2, rfl⟩
  · exact Or.inl (Or.inl h)
  by_cases h9 : g = 9
  · subst h9; exact Or.inl (Or.inr (Or.inl rfl))
  by_cases h15 : g = 15
  · subst h15; exact Or.inl (Or.inr (Or.inr rfl))
  exact Or.inr ⟨g, h1, h2, h9, h15, rfl⟩
theorem sx_cat0 {post : Int32 → Prop} {k : Int32} (hk : sk_nc k) (h : post 0) : wpX_isCatchable post () k := by
  unfold wpX_isCatchable
  rcases hk with hk | rfl | rfl
  · exact sx_sig0 hk (br_t rfl h)
  · exact sx_sig1 (g := 9) (by decide) (by decide) (br_f (by decide) (br_t rfl h))
  · exact sx_sig1 (g := 15) (by decide) (by decide) (br_f (by decide) (br_f (by decide) (br_t rfl h)))
section
variable {np nd es : Nat} {ls et : Int32} {co ca pc ra rb sp mk dp fc fa fb fm sl st lf su pg pn ss ql qs qr hd fl ek ep ev er : Nat → Int32}
theorem sx_seta1 {post : Int32 → St2 → Prop} {p g : Nat} {x f : Int32} (hp : p < np) (hn : np ≤ 4) (hl : lf p = 0) (h1 : 1 ≤ g) (hg : g < 32) (h9 : g ≠ 9) (h15 : g ≠ 15) (hx : x = -2 ∨ x = -1 ∨ ∃ j, j < 32 ∧ x = nI j) (h : post (hd (p * 32 + g)) (nI np, nI nd, ls, et, nI es, co, ca, pc, ra, rb, sp, mk, dp, fc, fa, fb, fm, sl, st, lf, su, pg, ss, ql, qs, qr, upd hd (p * 32 + g) x, upd fl (p * 32 + g) (f &&& 7), ek, ep, ev, er)) : wpX_setAction post (nI np, nI nd, ls, et, nI es, co, ca, pc, ra, rb, sp, mk, dp, fc, fa, fb, fm, sl, st, lf, su, pg, ss, ql, qs, qr, hd, fl, ek, ep, ev, er) (nI p) (nI g) x f := by
  have e3 : vp_in (nI (p * 32 + g)) 128 := vp_in_nI (by omega) (by decide)
  have e4 : (nI (p * 32 + g)).toNatClampNeg = p * 32 + g := nI_clamp (by omega)
  unfold wpX_setAction
  refine sx_al1 hp hn hl ?_
  refine br_f (by decide) ?_
  refine sx_cat1 h1 hg h9 h15 ?_
  refine br_f (by decide) ?_
  refine sx_hd1 hx ?_
  refine br_f (by decide) ?_
  simp only [sk_ix32, e3, e4, true_implies, false_implies, not_true_eq_false, not_false_eq_true, and_true, true_and, forall_eq, implies_true]
  exact h
theorem sx_seta0 {post : Int32 → St2 → Prop} {p : Nat} {k x f : Int32} (hp : p < np) (hn : np ≤ 4) (hl : lf p = 0) (hk : sk_nc k) (h : post (-22) (nI np, nI nd, ls, et, nI es, co, ca, pc, ra, rb, sp, mk, dp, fc, fa, fb, fm, sl, st, lf, su, pg, ss, ql, qs, qr, hd, fl, ek, ep, ev, er)) : wpX_setAction post (nI np, nI nd, ls, et, nI es, co, ca, pc, ra, rb, sp, mk, dp, fc, fa, fb, fm, sl, st, lf, su, pg, ss, ql, qs, qr, hd, fl, ek, ep, ev, er) (nI p) k x f := by
  unfold wpX_setAction
  refine sx_al1 hp hn hl ?_
  refine br_f (by decide) ?_
  refine sx_cat0 hk ?_
  exact br_t rfl h
theorem sx_seta2 {post : Int32 → St2 → Prop} {p g : Nat} {x f : Int32} (hp : p < np) (hn : np ≤ 4) (hl : lf p = 0) (h1 : 1 ≤ g) (hg : g < 32) (h9 : g ≠ 9) (h15 : g ≠ 15) (n1 : ¬ x = -1) (n2 : ¬ x = -2) (hx : x < 0 ∨ nI 32 ≤ x) (h : post (-22) (nI np, nI nd, ls, et, nI es, co, ca, pc, ra, rb, sp, mk, dp, fc, fa, fb, fm, sl, st, lf, su, pg, ss, ql, qs, qr, hd, fl, ek, ep, ev, er)) : wpX_setAction post (nI np, nI nd, ls, et, nI es, co, ca, pc, ra, rb, sp, mk, dp, fc, fa, fb, fm, sl, st, lf, su, pg, ss, ql, qs, qr, hd, fl, ek, ep, ev, er) (nI p) (nI g) x f := by
  unfold wpX_setAction
  refine sx_al1 hp hn hl ?_
  refine br_f (by decide) ?_
  refine sx_cat1 h1 hg h9 h15 ?_
  refine br_f (by decide) ?_
  refine sx_hd0 n1 n2 hx ?_
  exact br_t rfl h
end
section
variable {np nd es : Nat} {ls et : Int32} {co ca pc ra rb sp mk dp fc fa fb fm sl st lf su pg pn ss ql qs qr hd fl ek ep ev er : Nat → Int32}
theorem sx_setb1 {post : Int32 → St2 → Prop} {p g : Nat} {x f : Int32} (hp : p < np) (hn : np ≤ 4) (hl : lf p = 0) (h1 : 1 ≤ g) (hg : g < 32) (h9 : g ≠ 9) (h15 : g ≠ 15) (hx : x = -2 ∨ x = -1 ∨ ∃ j, j < 32 ∧ x = nI j) (h : post (hd (p * 32 + g)) (nI np, nI nd, ls, et, nI es, co, ca, pc, ra, rb, sp, mk, dp, fc, fa, fb, fm, sl, st, lf, su, pg, ss, ql, qs, qr, upd hd (p * 32 + g) x, upd fl (p * 32 + g) (f &&& 7), ek, ep, ev, er)) : wpX_setAction_2 post (nI np, nI nd, ls, et, nI es, co, ca, pc, ra, rb, sp, mk, dp, fc, fa, fb, fm, sl, st, lf, su, pg, ss, ql, qs, qr, hd, fl, ek, ep, ev, er) (nI p) (nI g) x f := by
  have e3 : vp_in (nI (p * 32 + g)) 128 := vp_in_nI (by omega) (by decide)
  have e4 : (nI (p * 32 + g)).toNatClampNeg = p * 32 + g := nI_clamp (by omega)
  unfold wpX_setAction_2
  refine sx_al1 hp hn hl ?_
  refine br_f (by decide) ?_
  refine sx_cat1 h1 hg h9 h15 ?_
  refine br_f (by decide) ?_
  refine sx_hd1 hx ?_
  refine br_f (by decide) ?_
  simp only [sk_ix32, e3, e4, true_implies, false_implies, not_true_eq_false, not_false_eq_true, and_true, true_and, forall_eq, implies_true]
  exact h
theorem sx_setb0 {post : Int32 → St2 → Prop} {p : Nat} {k x f : Int32} (hp : p < np) (hn : np ≤ 4) (hl : lf p = 0) (hk : sk_nc k) (h : post (-22) (nI np, nI nd, ls, et, nI es, co, ca, pc, ra, rb, sp, mk, dp, fc, fa, fb, fm, sl, st, lf, su, pg, ss, ql, qs, qr, hd, fl, ek, ep, ev, er)) : wpX_setAction_2 post (nI np, nI nd, ls, et, nI es, co, ca, pc, ra, rb, sp, mk, dp, fc, fa, fb, fm, sl, st, lf, su, pg, ss, ql, qs, qr, hd, fl, ek, ep, ev, er) (nI p) k x f := by
  unfold wpX_setAction_2
  refine sx_al1 hp hn hl ?_
  refine br_f (by decide) ?_
  refine sx_cat0 hk ?_
  exact br_t rfl h
theorem sx_setb2 {post : Int32 → St2 → Prop} {p g : Nat} {x f : Int32} (hp : p < np) (hn : np ≤ 4) (hl : lf p = 0) (h1 : 1 ≤ g) (hg : g < 32) (h9 : g ≠ 9) (h15 : g ≠ 15) (n1 : ¬ x = -1) (n2 : ¬ x = -2) (hx : x < 0 ∨ nI 32 ≤ x) (h : post (-22) (nI np, nI nd, ls, et, nI es, co, ca, pc, ra, rb, sp, mk, dp, fc, fa, fb, fm, sl, st, lf, su, pg, ss, ql, qs, qr, hd, fl, ek, ep, ev, er)) : wpX_setAction_2 post (nI np, nI nd, ls, et, nI es, co, ca, pc, ra, rb, sp, mk, dp, fc, fa, fb, fm, sl, st, lf, su, pg, ss, ql, qs, qr, hd, fl, ek, ep, ev, er) (nI p) (nI g) x f := by
  unfold wpX_setAction_2
  refine sx_al1 hp hn hl ?_
  refine br_f (by decide) ?_
  refine sx_cat1 h1 hg h9 h15 ?_
  refine br_f (by decide) ?_
  refine sx_hd0 n1 n2 hx ?_
  exact br_t rfl h
end
end
section
section
variable {np nd es : Nat} {ls et : Int32} {co ca pc ra rb sp mk dp fc fa fb fm sl st lf su pg pn ss ql qs qr hd fl ek ep ev er : Nat → Int32}
theorem sx_x0 {post : St2 → Prop} {p c : Nat} (hp : p < 4) (hc : c < 32) (ec : pc p = nI c) (ho : co (p * 32 + c) = 0) (hs : es ≤ 128) (h : post (nI np, nI nd, ls, et + 1, nI (sk_lgN es), co, ca, pc, ra, rb, sp, mk, dp, fc, fa, fb, fm, upd sl p 0, upd st p 0, upd lf p 3, upd su p (ra p), upd pg p 0, sk_clr ss (p * 16) 16, upd ql p 0, qs, qr, hd, fl, sk_lgA ek es 7, sk_lgA ep es (nI p), sk_lgA ev es (ra p), sk_lgA er es 0)) : wpX_execute post (nI np, nI nd, ls, et, nI es, co, ca, pc, ra, rb, sp, mk, dp, fc, fa, fb, fm, sl, st, lf, su, pg, ss, ql, qs, qr, hd, fl, ek, ep, ev, er) (nI p) := by
  have e1 : vp_in (nI p) 4 := vp_in_nI hp (by decide)
  have e2 : (nI p).toNatClampNeg = p := nI_clamp (by omega)
  have e3 : vp_in (nI (p * 32 + c)) 128 := vp_in_nI (by omega) (by decide)
  have e4 : (nI (p * 32 + c)).toNatClampNeg = p * 32 + c := nI_clamp (by omega)
  have e5 : nI p * 32 + pc (nI p).toNatClampNeg = nI (p * 32 + c) := by rw [e2, ec, sk_ix32]
  have ho' : co (nI (p * 32 + c)).toNatClampNeg = 0 := by rw [e4]; exact ho
  have hk' : ca (nI (p * 32 + c)).toNatClampNeg = ca (p * 32 + c) := by rw [e4]
  unfold wpX_execute
  refine ⟨e1, nm_r e5 ⟨e3, nm_r ho' ⟨e3, nm_r hk' (br_f (by decide) (br_f (by decide) (br_t rfl ?_)))⟩⟩⟩
  simp only [e1, e2, true_implies, false_implies, not_true_eq_false, not_false_eq_true, and_true, true_and, forall_eq, implies_true]
  refine sx_die hp ?_
  refine sx_log hs ?_
  exact h
theorem sx_x4 {post : St2 → Prop} {p c : Nat} (hp : p < 4) (hc : c < 32) (ec : pc p = nI c) (ho : co (p * 32 + c) = 4) (h : post (nI np, nI nd, ls, et, nI es, co, ca, upd pc p (ca (p * 32 + c)), ra, rb, sp, mk, dp, fc, fa, fb, fm, sl, st, lf, su, pg, ss, ql, qs, qr, hd, fl, ek, ep, ev, er)) : wpX_execute post (nI np, nI nd, ls, et, nI es, co, ca, pc, ra, rb, sp, mk, dp, fc, fa, fb, fm, sl, st, lf, su, pg, ss, ql, qs, qr, hd, fl, ek, ep, ev, er) (nI p) := by
  have e1 : vp_in (nI p) 4 := vp_in_nI hp (by decide)
  have e2 : (nI p).toNatClampNeg = p := nI_clamp (by omega)
  have e3 : vp_in (nI (p * 32 + c)) 128 := vp_in_nI (by omega) (by decide)
  have e4 : (nI (p * 32 + c)).toNatClampNeg = p * 32 + c := nI_clamp (by omega)
  have e5 : nI p * 32 + pc (nI p).toNatClampNeg = nI (p * 32 + c) := by rw [e2, ec, sk_ix32]
  have ho' : co (nI (p * 32 + c)).toNatClampNeg = 4 := by rw [e4]; exact ho
  have hk' : ca (nI (p * 32 + c)).toNatClampNeg = ca (p * 32 + c) := by rw [e4]
  unfold wpX_execute
  refine ⟨e1, nm_r e5 ⟨e3, nm_r ho' ⟨e3, nm_r hk' (br_f (by decide) (br_f (by decide) (br_f (by decide) (br_f (by decide) (br_f (by decide) (br_f (by decide) (br_t rfl ?_)))))))⟩⟩⟩
  simp only [e1, e2, true_implies, false_implies, not_true_eq_false, not_false_eq_true, and_true, true_and, forall_eq, implies_true]
  exact h
theorem sx_x5 {post : St2 → Prop} {p c : Nat} (hp : p < 4) (hc : c < 32) (ec : pc p = nI c) (ho : co (p * 32 + c) = 5) (hz : ra p = 0) (h : post (nI np, nI nd, ls, et, nI es, co, ca, upd pc p (pc p + 1), ra, rb, sp, mk, dp, fc, fa, fb, fm, sl, st, lf, su, pg, ss, ql, qs, qr, hd, fl, ek, ep, ev, er)) : wpX_execute post (nI np, nI nd, ls, et, nI es, co, ca, pc, ra, rb, sp, mk, dp, fc, fa, fb, fm, sl, st, lf, su, pg, ss, ql, qs, qr, hd, fl, ek, ep, ev, er) (nI p) := by
  have e1 : vp_in (nI p) 4 := vp_in_nI hp (by decide)
  have e2 : (nI p).toNatClampNeg = p := nI_clamp (by omega)
  have e3 : vp_in (nI (p * 32 + c)) 128 := vp_in_nI (by omega) (by decide)
  have e4 : (nI (p * 32 + c)).toNatClampNeg = p * 32 + c := nI_clamp (by omega)
  have e5 : nI p * 32 + pc (nI p).toNatClampNeg = nI (p * 32 + c) := by rw [e2, ec, sk_ix32]
  have ho' : co (nI (p * 32 + c)).toNatClampNeg = 5 := by rw [e4]; exact ho
  have hk' : ca (nI (p * 32 + c)).toNatClampNeg = ca (p * 32 + c) := by rw [e4]
  unfold wpX_execute
  refine ⟨e1, nm_r e5 ⟨e3, nm_r ho' ⟨e3, nm_r hk' (br_f (by decide) (br_f (by decide) (br_f (by decide) (br_f (by decide) (br_f (by decide) (br_f (by decide) (br_f (by decide) (br_t rfl ?_))))))))⟩⟩⟩
  simp only [e1, e2, hz, true_implies, false_implies, not_true_eq_false, not_false_eq_true, and_true, true_and, forall_eq, implies_true]
  exact h
theorem sx_x5b {post : St2 → Prop} {p c : Nat} (hp : p < 4) (hc : c < 32) (ec : pc p = nI c) (ho : co (p * 32 + c) = 5) (hz : ¬ ra p = 0) (h : post (nI np, nI nd, ls, et, nI es, co, ca, upd pc p (ca (p * 32 + c)), ra, rb, sp, mk, dp, fc, fa, fb, fm, sl, st, lf, su, pg, ss, ql, qs, qr, hd, fl, ek, ep, ev, er)) : wpX_execute post (nI np, nI nd, ls, et, nI es, co, ca, pc, ra, rb, sp, mk, dp, fc, fa, fb, fm, sl, st, lf, su, pg, ss, ql, qs, qr, hd, fl, ek, ep, ev, er) (nI p) := by
  have e1 : vp_in (nI p) 4 := vp_in_nI hp (by decide)
  have e2 : (nI p).toNatClampNeg = p := nI_clamp (by omega)
  have e3 : vp_in (nI (p * 32 + c)) 128 := vp_in_nI (by omega) (by decide)
  have e4 : (nI (p * 32 + c)).toNatClampNeg = p * 32 + c := nI_clamp (by omega)
  have e5 : nI p * 32 + pc (nI p).toNatClampNeg = nI (p * 32 + c) := by rw [e2, ec, sk_ix32]
  have ho' : co (nI (p * 32 + c)).toNatClampNeg = 5 := by rw [e4]; exact ho
  have hk' : ca (nI (p * 32 + c)).toNatClampNeg = ca (p * 32 + c) := by rw [e4]
  unfold wpX_execute
  refine ⟨e1, nm_r e5 ⟨e3, nm_r ho' ⟨e3, nm_r hk' (br_f (by decide) (br_f (by decide) (br_f (by decide) (br_f (by decide) (br_f (by decide) (br_f (by decide) (br_f (by decide) (br_t rfl ?_))))))))⟩⟩⟩
  simp only [e1, e2, hz, true_implies, false_implies, not_true_eq_false, not_false_eq_true, and_true, true_and, forall_eq, implies_true]
  exact h
theorem sx_x9 {post : St2 → Prop} {p c : Nat} (hp : p < 4) (hc : c < 32) (ec : pc p = nI c) (ho : co (p * 32 + c) = 9) (hz : ¬ (ca (p * 32 + c)) ≤ 0) (h : post (nI np, nI nd, ls, et, nI es, co, ca, pc, ra, rb, sp, mk, dp, fc, fa, fb, fm, upd sl p (ca (p * 32 + c)), st, lf, su, pg, ss, ql, qs, qr, hd, fl, ek, ep, ev, er)) : wpX_execute post (nI np, nI nd, ls, et, nI es, co, ca, pc, ra, rb, sp, mk, dp, fc, fa, fb, fm, sl, st, lf, su, pg, ss, ql, qs, qr, hd, fl, ek, ep, ev, er) (nI p) := by
  have e1 : vp_in (nI p) 4 := vp_in_nI hp (by decide)
  have e2 : (nI p).toNatClampNeg = p := nI_clamp (by omega)
  have e3 : vp_in (nI (p * 32 + c)) 128 := vp_in_nI (by omega) (by decide)
  have e4 : (nI (p * 32 + c)).toNatClampNeg = p * 32 + c := nI_clamp (by omega)
  have e5 : nI p * 32 + pc (nI p).toNatClampNeg = nI (p * 32 + c) := by rw [e2, ec, sk_ix32]
  have ho' : co (nI (p * 32 + c)).toNatClampNeg = 9 := by rw [e4]; exact ho
  have hk' : ca (nI (p * 32 + c)).toNatClampNeg = ca (p * 32 + c) := by rw [e4]
  unfold wpX_execute
  refine ⟨e1, nm_r e5 ⟨e3, nm_r ho' ⟨e3, nm_r hk' (br_f (by decide) (br_f (by decide) (br_f (by decide) (br_f (by decide) (br_f (by decide) (br_f (by decide) (br_f (by decide) (br_f (by decide) (br_f (by decide) (br_f (by decide) (br_f (by decide) (br_t rfl ?_))))))))))))⟩⟩⟩
  simp only [wpX_fallAsleep, e1, e2, hz, true_implies, false_implies, not_true_eq_false, not_false_eq_true, and_true, true_and, forall_eq, implies_true]
  exact h
theorem sx_x9b {post : St2 → Prop} {p c : Nat} (hp : p < 4) (hc : c < 32) (ec : pc p = nI c) (ho : co (p * 32 + c) = 9) (hz : (ca (p * 32 + c)) ≤ 0) (h : post (nI np, nI nd, ls, et, nI es, co, ca, upd pc p (pc p + 1), upd ra p 0, rb, sp, mk, dp, fc, fa, fb, fm, sl, st, lf, su, pg, ss, ql, qs, qr, hd, fl, ek, ep, ev, er)) : wpX_execute post (nI np, nI nd, ls, et, nI es, co, ca, pc, ra, rb, sp, mk, dp, fc, fa, fb, fm, sl, st, lf, su, pg, ss, ql, qs, qr, hd, fl, ek, ep, ev, er) (nI p) := by
  have e1 : vp_in (nI p) 4 := vp_in_nI hp (by decide)
  have e2 : (nI p).toNatClampNeg = p := nI_clamp (by omega)
  have e3 : vp_in (nI (p * 32 + c)) 128 := vp_in_nI (by omega) (by decide)
  have e4 : (nI (p * 32 + c)).toNatClampNeg = p * 32 + c := nI_clamp (by omega)
  have e5 : nI p * 32 + pc (nI p).toNatClampNeg = nI (p * 32 + c) := by rw [e2, ec, sk_ix32]
  have ho' : co (nI (p * 32 + c)).toNatClampNeg = 9 := by rw [e4]; exact ho
  have hk' : ca (nI (p * 32 + c)).toNatClampNeg = ca (p * 32 + c) := by rw [e4]
  unfold wpX_execute
  refine ⟨e1, nm_r e5 ⟨e3, nm_r ho' ⟨e3, nm_r hk' (br_f (by decide) (br_f (by decide) (br_f (by decide) (br_f (by decide) (br_f (by decide) (br_f (by decide) (br_f (by decide) (br_f (by decide) (br_f (by decide) (br_f (by decide) (br_f (by decide) (br_t rfl ?_))))))))))))⟩⟩⟩
  simp only [wpX_fallAsleep, e1, e2, hz, true_implies, false_implies, not_true_eq_false, not_false_eq_true, and_true, true_and, forall_eq, implies_true]
  exact h
theorem sx_x10 {post : St2 → Prop} {p c : Nat} (hp : p < 4) (hc : c < 32) (ec : pc p = nI c) (ho : co (p * 32 + c) = 10) {d : Nat} (hd4 : d + 1 ≤ 4) (ed : dp p = nI (d + 1)) (h : post (nI np, nI nd, ls, et, nI es, co, ca, upd pc p (fc (p * 4 + d)), upd ra p (fa (p * 4 + d)), upd rb p (fb (p * 4 + d)), upd sp p (sp p + 4), upd mk p (fm (p * 4 + d)), upd dp p (nI d), fc, fa, fb, fm, sl, st, lf, su, pg, ss, ql, qs, qr, hd, fl, ek, ep, ev, er)) : wpX_execute post (nI np, nI nd, ls, et, nI es, co, ca, pc, ra, rb, sp, mk, dp, fc, fa, fb, fm, sl, st, lf, su, pg, ss, ql, qs, qr, hd, fl, ek, ep, ev, er) (nI p) := by
  have e1 : vp_in (nI p) 4 := vp_in_nI hp (by decide)
  have e2 : (nI p).toNatClampNeg = p := nI_clamp (by omega)
  have e3 : vp_in (nI (p * 32 + c)) 128 := vp_in_nI (by omega) (by decide)
  have e4 : (nI (p * 32 + c)).toNatClampNeg = p * 32 + c := nI_clamp (by omega)
  have e5 : nI p * 32 + pc (nI p).toNatClampNeg = nI (p * 32 + c) := by rw [e2, ec, sk_ix32]
  have ho' : co (nI (p * 32 + c)).toNatClampNeg = 10 := by rw [e4]; exact ho
  have hk' : ca (nI (p * 32 + c)).toNatClampNeg = ca (p * 32 + c) := by rw [e4]
  unfold wpX_execute
  refine ⟨e1, nm_r e5 ⟨e3, nm_r ho' ⟨e3, nm_r hk' (br_f (by decide) (br_f (by decide) (br_f (by decide) (br_f (by decide) (br_f (by decide) (br_f (by decide) (br_f (by decide) (br_f (by decide) (br_f (by decide) (br_f (by decide) (br_f (by decide) (br_f (by decide) (br_t rfl ?_)))))))))))))⟩⟩⟩
  have z : ¬ nI (d + 1) ≤ 0 := nI_nle (by omega) (by omega)
  have e6 : vp_in (nI (p * 4 + d)) 16 := vp_in_nI (by omega) (by decide)
  have e7 : (nI (p * 4 + d)).toNatClampNeg = p * 4 + d := nI_clamp (by omega)
  simp only [wpX_returnFromHandler, wpX_popFrame, e1, e2, ed, z, nI_pred, pk_us, sk_ix4, e6, e7, true_implies, false_implies, not_true_eq_false, not_false_eq_true, and_true, true_and, forall_eq, implies_true]
  exact h
theorem sx_x10b {post : St2 → Prop} {p c : Nat} (hp : p < 4) (hc : c < 32) (ec : pc p = nI c) (ho : co (p * 32 + c) = 10) (ed : dp p = 0) (h : post (nI np, nI nd, ls, et, nI es, co, ca, upd pc p (pc p + 1), upd ra p (-22), rb, sp, mk, dp, fc, fa, fb, fm, sl, st, lf, su, pg, ss, ql, qs, qr, hd, fl, ek, ep, ev, er)) : wpX_execute post (nI np, nI nd, ls, et, nI es, co, ca, pc, ra, rb, sp, mk, dp, fc, fa, fb, fm, sl, st, lf, su, pg, ss, ql, qs, qr, hd, fl, ek, ep, ev, er) (nI p) := by
  have e1 : vp_in (nI p) 4 := vp_in_nI hp (by decide)
  have e2 : (nI p).toNatClampNeg = p := nI_clamp (by omega)
  have e3 : vp_in (nI (p * 32 + c)) 128 := vp_in_nI (by omega) (by decide)
  have e4 : (nI (p * 32 + c)).toNatClampNeg = p * 32 + c := nI_clamp (by omega)
  have e5 : nI p * 32 + pc (nI p).toNatClampNeg = nI (p * 32 + c) := by rw [e2, ec, sk_ix32]
  have ho' : co (nI (p * 32 + c)).toNatClampNeg = 10 := by rw [e4]; exact ho
  have hk' : ca (nI (p * 32 + c)).toNatClampNeg = ca (p * 32 + c) := by rw [e4]
  unfold wpX_execute
  refine ⟨e1, nm_r e5 ⟨e3, nm_r ho' ⟨e3, nm_r hk' (br_f (by decide) (br_f (by decide) (br_f (by decide) (br_f (by decide) (br_f (by decide) (br_f (by decide) (br_f (by decide) (br_f (by decide) (br_f (by decide) (br_f (by decide) (br_f (by decide) (br_f (by decide) (br_t rfl ?_)))))))))))))⟩⟩⟩
  have z : (0 : Int32) ≤ 0 := by decide
  simp only [wpX_returnFromHandler, e1, e2, ed, z, true_implies, false_implies, not_true_eq_false, not_false_eq_true, and_true, true_and, forall_eq, implies_true]
  exact h
theorem sx_x1 {post : St2 → Prop} {p c : Nat} (hp : p < 4) (hc : c < 32) (ec : pc p = nI c) (ho : co (p * 32 + c) = 1) (h : post (nI np, nI nd, ls, et, nI es, co, ca, upd pc p (pc p + 1), upd ra p (ca (p * 32 + c)), rb, sp, mk, dp, fc, fa, fb, fm, sl, st, lf, su, pg, ss, ql, qs, qr, hd, fl, ek, ep, ev, er)) : wpX_execute post (nI np, nI nd, ls, et, nI es, co, ca, pc, ra, rb, sp, mk, dp, fc, fa, fb, fm, sl, st, lf, su, pg, ss, ql, qs, qr, hd, fl, ek, ep, ev, er) (nI p) := by
  have e1 : vp_in (nI p) 4 := vp_in_nI hp (by decide)
  have e2 : (nI p).toNatClampNeg = p := nI_clamp (by omega)
  have e3 : vp_in (nI (p * 32 + c)) 128 := vp_in_nI (by omega) (by decide)
  have e4 : (nI (p * 32 + c)).toNatClampNeg = p * 32 + c := nI_clamp (by omega)
  have e5 : nI p * 32 + pc (nI p).toNatClampNeg = nI (p * 32 + c) := by rw [e2, ec, sk_ix32]
  have ho' : co (nI (p * 32 + c)).toNatClampNeg = 1 := by rw [e4]; exact ho
  have hk' : ca (nI (p * 32 + c)).toNatClampNeg = ca (p * 32 + c) := by rw [e4]
  unfold wpX_execute
  refine ⟨e1, nm_r e5 ⟨e3, nm_r ho' ⟨e3, nm_r hk' (br_f (by decide) (br_f (by decide) (br_f (by decide) (br_t rfl ?_))))⟩⟩⟩
  unfold wX_execute_259 wpX_compute
  refine (br_f (by decide) (br_f (by decide) (br_t rfl ?_)))
  simp only [e1, e2, true_implies, false_implies, not_true_eq_false, not_false_eq_true, and_true, true_and, forall_eq, implies_true]
  exact h
theorem sx_x2 {post : St2 → Prop} {p c : Nat} (hp : p < 4) (hc : c < 32) (ec : pc p = nI c) (ho : co (p * 32 + c) = 2) (h : post (nI np, nI nd, ls, et, nI es, co, ca, upd pc p (pc p + 1), ra, upd rb p (ca (p * 32 + c)), sp, mk, dp, fc, fa, fb, fm, sl, st, lf, su, pg, ss, ql, qs, qr, hd, fl, ek, ep, ev, er)) : wpX_execute post (nI np, nI nd, ls, et, nI es, co, ca, pc, ra, rb, sp, mk, dp, fc, fa, fb, fm, sl, st, lf, su, pg, ss, ql, qs, qr, hd, fl, ek, ep, ev, er) (nI p) := by
  have e1 : vp_in (nI p) 4 := vp_in_nI hp (by decide)
  have e2 : (nI p).toNatClampNeg = p := nI_clamp (by omega)
  have e3 : vp_in (nI (p * 32 + c)) 128 := vp_in_nI (by omega) (by decide)
  have e4 : (nI (p * 32 + c)).toNatClampNeg = p * 32 + c := nI_clamp (by omega)
  have e5 : nI p * 32 + pc (nI p).toNatClampNeg = nI (p * 32 + c) := by rw [e2, ec, sk_ix32]
  have ho' : co (nI (p * 32 + c)).toNatClampNeg = 2 := by rw [e4]; exact ho
  have hk' : ca (nI (p * 32 + c)).toNatClampNeg = ca (p * 32 + c) := by rw [e4]
  unfold wpX_execute
  refine ⟨e1, nm_r e5 ⟨e3, nm_r ho' ⟨e3, nm_r hk' (br_f (by decide) (br_f (by decide) (br_f (by decide) (br_f (by decide) (br_t rfl ?_)))))⟩⟩⟩
  unfold wX_execute_259 wpX_compute
  refine (br_f (by decide) (br_f (by decide) (br_f (by decide) (br_t rfl ?_))))
  simp only [e1, e2, true_implies, false_implies, not_true_eq_false, not_false_eq_true, and_true, true_and, forall_eq, implies_true]
  exact h
theorem sx_x3 {post : St2 → Prop} {p c : Nat} (hp : p < 4) (hc : c < 32) (ec : pc p = nI c) (ho : co (p * 32 + c) = 3) (h : post (nI np, nI nd, ls, et, nI es, co, ca, upd pc p (pc p + 1), upd ra p (ra p + ca (p * 32 + c)), rb, sp, mk, dp, fc, fa, fb, fm, sl, st, lf, su, pg, ss, ql, qs, qr, hd, fl, ek, ep, ev, er)) : wpX_execute post (nI np, nI nd, ls, et, nI es, co, ca, pc, ra, rb, sp, mk, dp, fc, fa, fb, fm, sl, st, lf, su, pg, ss, ql, qs, qr, hd, fl, ek, ep, ev, er) (nI p) := by
  have e1 : vp_in (nI p) 4 := vp_in_nI hp (by decide)
  have e2 : (nI p).toNatClampNeg = p := nI_clamp (by omega)
  have e3 : vp_in (nI (p * 32 + c)) 128 := vp_in_nI (by omega) (by decide)
  have e4 : (nI (p * 32 + c)).toNatClampNeg = p * 32 + c := nI_clamp (by omega)
  have e5 : nI p * 32 + pc (nI p).toNatClampNeg = nI (p * 32 + c) := by rw [e2, ec, sk_ix32]
  have ho' : co (nI (p * 32 + c)).toNatClampNeg = 3 := by rw [e4]; exact ho
  have hk' : ca (nI (p * 32 + c)).toNatClampNeg = ca (p * 32 + c) := by rw [e4]
  unfold wpX_execute
  refine ⟨e1, nm_r e5 ⟨e3, nm_r ho' ⟨e3, nm_r hk' (br_f (by decide) (br_f (by decide) (br_f (by decide) (br_f (by decide) (br_f (by decide) (br_t rfl ?_))))))⟩⟩⟩
  unfold wX_execute_259 wpX_compute
  refine (br_f (by decide) (br_f (by decide) (br_f (by decide) (br_f (by decide) (br_t rfl ?_)))))
  simp only [e1, e2, true_implies, false_implies, not_true_eq_false, not_false_eq_true, and_true, true_and, forall_eq, implies_true]
  exact h
theorem sx_x7a {post : St2 → Prop} {p c : Nat} (hp : p < 4) (hc : c < 32) (ec : pc p = nI c) (ho : co (p * 32 + c) = 7) (hk : (ca (p * 32 + c)) = 0) (h : post (nI np, nI nd, ls, et, nI es, co, ca, upd pc p (pc p + 1), upd ra p (mk p), rb, sp, upd mk p ((mk p ||| ra p) &&& (-33282)), dp, fc, fa, fb, fm, sl, st, lf, su, pg, ss, ql, qs, qr, hd, fl, ek, ep, ev, er)) : wpX_execute post (nI np, nI nd, ls, et, nI es, co, ca, pc, ra, rb, sp, mk, dp, fc, fa, fb, fm, sl, st, lf, su, pg, ss, ql, qs, qr, hd, fl, ek, ep, ev, er) (nI p) := by
  have e1 : vp_in (nI p) 4 := vp_in_nI hp (by decide)
  have e2 : (nI p).toNatClampNeg = p := nI_clamp (by omega)
  have e3 : vp_in (nI (p * 32 + c)) 128 := vp_in_nI (by omega) (by decide)
  have e4 : (nI (p * 32 + c)).toNatClampNeg = p * 32 + c := nI_clamp (by omega)
  have e5 : nI p * 32 + pc (nI p).toNatClampNeg = nI (p * 32 + c) := by rw [e2, ec, sk_ix32]
  have ho' : co (nI (p * 32 + c)).toNatClampNeg = 7 := by rw [e4]; exact ho
  have hk' : ca (nI (p * 32 + c)).toNatClampNeg = ca (p * 32 + c) := by rw [e4]
  unfold wpX_execute
  refine ⟨e1, nm_r e5 ⟨e3, nm_r ho' ⟨e3, nm_r hk' (br_f (by decide) (br_f (by decide) (br_f (by decide) (br_f (by decide) (br_f (by decide) (br_f (by decide) (br_f (by decide) (br_f (by decide) (br_f (by decide) (br_t rfl ?_))))))))))⟩⟩⟩
  unfold wX_execute_259 wpX_compute
  refine (br_f (by decide) (br_f (by decide) (br_f (by decide) (br_f (by decide) (br_f (by decide) (br_f (by decide) (br_f (by decide) (br_f (by decide) (br_t rfl ?_)))))))))
  rw [hk]
  unfold wpX_changeMask
  refine ⟨e1, nm_e (br_f (by decide) (br_f (by decide) (br_t rfl ⟨e1, nm_e ?_⟩)))⟩
  simp only [wX_changeMask_84, e1, e2, true_implies, false_implies, not_true_eq_false, not_false_eq_true, and_true, true_and, forall_eq, implies_true]
  exact h
theorem sx_x7b {post : St2 → Prop} {p c : Nat} (hp : p < 4) (hc : c < 32) (ec : pc p = nI c) (ho : co (p * 32 + c) = 7) (hk : (ca (p * 32 + c)) = 1) (h : post (nI np, nI nd, ls, et, nI es, co, ca, upd pc p (pc p + 1), upd ra p (mk p), rb, sp, upd mk p ((mk p &&& (ra p ^^^ (-1))) &&& (-33282)), dp, fc, fa, fb, fm, sl, st, lf, su, pg, ss, ql, qs, qr, hd, fl, ek, ep, ev, er)) : wpX_execute post (nI np, nI nd, ls, et, nI es, co, ca, pc, ra, rb, sp, mk, dp, fc, fa, fb, fm, sl, st, lf, su, pg, ss, ql, qs, qr, hd, fl, ek, ep, ev, er) (nI p) := by
  have e1 : vp_in (nI p) 4 := vp_in_nI hp (by decide)
  have e2 : (nI p).toNatClampNeg = p := nI_clamp (by omega)
  have e3 : vp_in (nI (p * 32 + c)) 128 := vp_in_nI (by omega) (by decide)
  have e4 : (nI (p * 32 + c)).toNatClampNeg = p * 32 + c := nI_clamp (by omega)
  have e5 : nI p * 32 + pc (nI p).toNatClampNeg = nI (p * 32 + c) := by rw [e2, ec, sk_ix32]
  have ho' : co (nI (p * 32 + c)).toNatClampNeg = 7 := by rw [e4]; exact ho
  have hk' : ca (nI (p * 32 + c)).toNatClampNeg = ca (p * 32 + c) := by rw [e4]
  unfold wpX_execute
  refine ⟨e1, nm_r e5 ⟨e3, nm_r ho' ⟨e3, nm_r hk' (br_f (by decide) (br_f (by decide) (br_f (by decide) (br_f (by decide) (br_f (by decide) (br_f (by decide) (br_f (by decide) (br_f (by decide) (br_f (by decide) (br_t rfl ?_))))))))))⟩⟩⟩
  unfold wX_execute_259 wpX_compute
  refine (br_f (by decide) (br_f (by decide) (br_f (by decide) (br_f (by decide) (br_f (by decide) (br_f (by decide) (br_f (by decide) (br_f (by decide) (br_t rfl ?_)))))))))
  rw [hk]
  unfold wpX_changeMask
  refine ⟨e1, nm_e (br_f (by decide) (br_f (by decide) (br_f (by decide) (br_t rfl ⟨e1, nm_e ?_⟩))))⟩
  simp only [wX_changeMask_84, e1, e2, true_implies, false_implies, not_true_eq_false, not_false_eq_true, and_true, true_and, forall_eq, implies_true]
  exact h
theorem sx_x7c {post : St2 → Prop} {p c : Nat} (hp : p < 4) (hc : c < 32) (ec : pc p = nI c) (ho : co (p * 32 + c) = 7) (hk : (ca (p * 32 + c)) = 2) (h : post (nI np, nI nd, ls, et, nI es, co, ca, upd pc p (pc p + 1), upd ra p (mk p), rb, sp, upd mk p ((ra p) &&& (-33282)), dp, fc, fa, fb, fm, sl, st, lf, su, pg, ss, ql, qs, qr, hd, fl, ek, ep, ev, er)) : wpX_execute post (nI np, nI nd, ls, et, nI es, co, ca, pc, ra, rb, sp, mk, dp, fc, fa, fb, fm, sl, st, lf, su, pg, ss, ql, qs, qr, hd, fl, ek, ep, ev, er) (nI p) := by
  have e1 : vp_in (nI p) 4 := vp_in_nI hp (by decide)
  have e2 : (nI p).toNatClampNeg = p := nI_clamp (by omega)
  have e3 : vp_in (nI (p * 32 + c)) 128 := vp_in_nI (by omega) (by decide)
  have e4 : (nI (p * 32 + c)).toNatClampNeg = p * 32 + c := nI_clamp (by omega)
  have e5 : nI p * 32 + pc (nI p).toNatClampNeg = nI (p * 32 + c) := by rw [e2, ec, sk_ix32]
  have ho' : co (nI (p * 32 + c)).toNatClampNeg = 7 := by rw [e4]; exact ho
  have hk' : ca (nI (p * 32 + c)).toNatClampNeg = ca (p * 32 + c) := by rw [e4]
  unfold wpX_execute
  refine ⟨e1, nm_r e5 ⟨e3, nm_r ho' ⟨e3, nm_r hk' (br_f (by decide) (br_f (by decide) (br_f (by decide) (br_f (by decide) (br_f (by decide) (br_f (by decide) (br_f (by decide) (br_f (by decide) (br_f (by decide) (br_t rfl ?_))))))))))⟩⟩⟩
  unfold wX_execute_259 wpX_compute
  refine (br_f (by decide) (br_f (by decide) (br_f (by decide) (br_f (by decide) (br_f (by decide) (br_f (by decide) (br_f (by decide) (br_f (by decide) (br_t rfl ?_)))))))))
  rw [hk]
  unfold wpX_changeMask
  refine ⟨e1, nm_e (br_f (by decide) (br_f (by decide) (br_f (by decide) (br_f (by decide) (br_t rfl ⟨e1, nm_e ?_⟩)))))⟩
  simp only [wX_changeMask_84, e1, e2, true_implies, false_implies, not_true_eq_false, not_false_eq_true, and_true, true_and, forall_eq, implies_true]
  exact h
theorem sx_x7d {post : St2 → Prop} {p c : Nat} (hp : p < 4) (hc : c < 32) (ec : pc p = nI c) (ho : co (p * 32 + c) = 7) (k0 : ¬ (ca (p * 32 + c)) = 0) (k1 : ¬ (ca (p * 32 + c)) = 1) (k2 : ¬ (ca (p * 32 + c)) = 2) (h : post (nI np, nI nd, ls, et, nI es, co, ca, upd pc p (pc p + 1), upd ra p (-22), rb, sp, mk, dp, fc, fa, fb, fm, sl, st, lf, su, pg, ss, ql, qs, qr, hd, fl, ek, ep, ev, er)) : wpX_execute post (nI np, nI nd, ls, et, nI es, co, ca, pc, ra, rb, sp, mk, dp, fc, fa, fb, fm, sl, st, lf, su, pg, ss, ql, qs, qr, hd, fl, ek, ep, ev, er) (nI p) := by
  have e1 : vp_in (nI p) 4 := vp_in_nI hp (by decide)
  have e2 : (nI p).toNatClampNeg = p := nI_clamp (by omega)
  have e3 : vp_in (nI (p * 32 + c)) 128 := vp_in_nI (by omega) (by decide)
  have e4 : (nI (p * 32 + c)).toNatClampNeg = p * 32 + c := nI_clamp (by omega)
  have e5 : nI p * 32 + pc (nI p).toNatClampNeg = nI (p * 32 + c) := by rw [e2, ec, sk_ix32]
  have ho' : co (nI (p * 32 + c)).toNatClampNeg = 7 := by rw [e4]; exact ho
  have hk' : ca (nI (p * 32 + c)).toNatClampNeg = ca (p * 32 + c) := by rw [e4]
  unfold wpX_execute
  refine ⟨e1, nm_r e5 ⟨e3, nm_r ho' ⟨e3, nm_r hk' (br_f (by decide) (br_f (by decide) (br_f (by decide) (br_f (by decide) (br_f (by decide) (br_f (by decide) (br_f (by decide) (br_f (by decide) (br_f (by decide) (br_t rfl ?_))))))))))⟩⟩⟩
  unfold wX_execute_259 wpX_compute
  refine (br_f (by decide) (br_f (by decide) (br_f (by decide) (br_f (by decide) (br_f (by decide) (br_f (by decide) (br_f (by decide) (br_f (by decide) (br_t rfl ?_)))))))))
  unfold wpX_changeMask
  refine ⟨e1, nm_e (br_c (fun _ => ?_) fun _ => br_c (fun _ => ?_) fun _ => br_f k0 (br_f k1 (br_f k2 trivial)))⟩
  · simp only [e1, e2, true_implies, false_implies, not_true_eq_false, not_false_eq_true, and_true, true_and, forall_eq, implies_true]
    exact h
  · simp only [e1, e2, true_implies, false_implies, not_true_eq_false, not_false_eq_true, and_true, true_and, forall_eq, implies_true]
    exact h
theorem sx_x11 {post : St2 → Prop} {p c : Nat} (hp : p < 4) (hc : c < 32) (ec : pc p = nI c) (ho : co (p * 32 + c) = 11) (hs : es ≤ 128) (h : post (nI np, nI nd, ls, et + 1, nI (sk_lgN es), co, ca, upd pc p (pc p + 1), ra, rb, sp, mk, dp, fc, fa, fb, fm, sl, st, lf, su, pg, ss, ql, qs, qr, hd, fl, sk_lgA ek es 6, sk_lgA ep es (nI p), sk_lgA ev es (ra p), sk_lgA er es 0)) : wpX_execute post (nI np, nI nd, ls, et, nI es, co, ca, pc, ra, rb, sp, mk, dp, fc, fa, fb, fm, sl, st, lf, su, pg, ss, ql, qs, qr, hd, fl, ek, ep, ev, er) (nI p) := by
  have e1 : vp_in (nI p) 4 := vp_in_nI hp (by decide)
  have e2 : (nI p).toNatClampNeg = p := nI_clamp (by omega)
  have e3 : vp_in (nI (p * 32 + c)) 128 := vp_in_nI (by omega) (by decide)
  have e4 : (nI (p * 32 + c)).toNatClampNeg = p * 32 + c := nI_clamp (by omega)
  have e5 : nI p * 32 + pc (nI p).toNatClampNeg = nI (p * 32 + c) := by rw [e2, ec, sk_ix32]
  have ho' : co (nI (p * 32 + c)).toNatClampNeg = 11 := by rw [e4]; exact ho
  have hk' : ca (nI (p * 32 + c)).toNatClampNeg = ca (p * 32 + c) := by rw [e4]
  unfold wpX_execute
  refine ⟨e1, nm_r e5 ⟨e3, nm_r ho' ⟨e3, nm_r hk' (br_f (by decide) (br_t (by decide) ?_))⟩⟩⟩
  unfold wX_execute_259 wpX_compute
  refine (br_f (by decide) (br_f (by decide) (br_f (by decide) (br_f (by decide) (br_f (by decide) (br_f (by decide) (br_f (by decide) (br_f (by decide) (br_f (by decide) (br_f (by decide) (br_f (by decide) (br_f (by decide) (br_t rfl ?_)))))))))))))
  simp only [e1, e2, true_implies, false_implies, not_true_eq_false, not_false_eq_true, and_true, true_and, forall_eq, implies_true]
  refine sx_log hs ?_
  exact h
theorem sx_x12 {post : St2 → Prop} {p c : Nat} (hp : p < 4) (hc : c < 32) (ec : pc p = nI c) (ho : co (p * 32 + c) = 12) (h : post (nI np, nI nd, ls, et, nI es, co, ca, upd pc p (pc p + 1), ra, upd rb p (nI p), sp, mk, dp, fc, fa, fb, fm, sl, st, lf, su, pg, ss, ql, qs, qr, hd, fl, ek, ep, ev, er)) : wpX_execute post (nI np, nI nd, ls, et, nI es, co, ca, pc, ra, rb, sp, mk, dp, fc, fa, fb, fm, sl, st, lf, su, pg, ss, ql, qs, qr, hd, fl, ek, ep, ev, er) (nI p) := by
  have e1 : vp_in (nI p) 4 := vp_in_nI hp (by decide)
  have e2 : (nI p).toNatClampNeg = p := nI_clamp (by omega)
  have e3 : vp_in (nI (p * 32 + c)) 128 := vp_in_nI (by omega) (by decide)
  have e4 : (nI (p * 32 + c)).toNatClampNeg = p * 32 + c := nI_clamp (by omega)
  have e5 : nI p * 32 + pc (nI p).toNatClampNeg = nI (p * 32 + c) := by rw [e2, ec, sk_ix32]
  have ho' : co (nI (p * 32 + c)).toNatClampNeg = 12 := by rw [e4]; exact ho
  have hk' : ca (nI (p * 32 + c)).toNatClampNeg = ca (p * 32 + c) := by rw [e4]
  unfold wpX_execute
  refine ⟨e1, nm_r e5 ⟨e3, nm_r ho' ⟨e3, nm_r hk' (br_f (by decide) (br_t (by decide) ?_))⟩⟩⟩
  unfold wX_execute_259 wpX_compute
  refine (br_f (by decide) (br_f (by decide) (br_f (by decide) (br_f (by decide) (br_f (by decide) (br_f (by decide) (br_f (by decide) (br_f (by decide) (br_f (by decide) (br_f (by decide) (br_f (by decide) (br_f (by decide) (br_f (by decide) (br_t rfl ?_))))))))))))))
  simp only [e1, e2, true_implies, false_implies, not_true_eq_false, not_false_eq_true, and_true, true_and, forall_eq, implies_true]
  exact h
theorem sx_x13 {post : St2 → Prop} {p c : Nat} (hp : p < 4) (hc : c < 32) (ec : pc p = nI c) (ho : co (p * 32 + c) = 13) {l : Nat} (hl : l ≤ 8) (el : ql p = nI l) (h : post (nI np, nI nd, ls, et, nI es, co, ca, upd pc p (pc p + 1), upd ra p (sk_orq (pg p) qs (p * 8) l), rb, sp, mk, dp, fc, fa, fb, fm, sl, st, lf, su, pg, ss, ql, qs, qr, hd, fl, ek, ep, ev, er)) : wpX_execute post (nI np, nI nd, ls, et, nI es, co, ca, pc, ra, rb, sp, mk, dp, fc, fa, fb, fm, sl, st, lf, su, pg, ss, ql, qs, qr, hd, fl, ek, ep, ev, er) (nI p) := by
  have e1 : vp_in (nI p) 4 := vp_in_nI hp (by decide)
  have e2 : (nI p).toNatClampNeg = p := nI_clamp (by omega)
  have e3 : vp_in (nI (p * 32 + c)) 128 := vp_in_nI (by omega) (by decide)
  have e4 : (nI (p * 32 + c)).toNatClampNeg = p * 32 + c := nI_clamp (by omega)
  have e5 : nI p * 32 + pc (nI p).toNatClampNeg = nI (p * 32 + c) := by rw [e2, ec, sk_ix32]
  have ho' : co (nI (p * 32 + c)).toNatClampNeg = 13 := by rw [e4]; exact ho
  have hk' : ca (nI (p * 32 + c)).toNatClampNeg = ca (p * 32 + c) := by rw [e4]
  unfold wpX_execute
  refine ⟨e1, nm_r e5 ⟨e3, nm_r ho' ⟨e3, nm_r hk' (br_f (by decide) (br_t (by decide) ?_))⟩⟩⟩
  unfold wX_execute_259 wpX_compute
  refine (br_f (by decide) (br_f (by decide) (br_f (by decide) (br_f (by decide) (br_f (by decide) (br_f (by decide) (br_f (by decide) (br_f (by decide) (br_f (by decide) (br_f (by decide) (br_f (by decide) (br_f (by decide) (br_f (by decide) (br_f (by decide) (br_t rfl ?_)))))))))))))))
  refine sx_allp hp hl el ?_
  simp only [e1, e2, true_implies, false_implies, not_true_eq_false, not_false_eq_true, and_true, true_and, forall_eq, implies_true]
  exact h
theorem sx_x14 {post : St2 → Prop} {p c : Nat} (hp : p < 4) (hc : c < 32) (ec : pc p = nI c) (ho : co (p * 32 + c) = 14) (h : post (nI np, nI nd, ls, et, nI es, co, ca, upd pc p (pc p + 1), upd ra p (rb p), upd rb p (ra p), sp, mk, dp, fc, fa, fb, fm, sl, st, lf, su, pg, ss, ql, qs, qr, hd, fl, ek, ep, ev, er)) : wpX_execute post (nI np, nI nd, ls, et, nI es, co, ca, pc, ra, rb, sp, mk, dp, fc, fa, fb, fm, sl, st, lf, su, pg, ss, ql, qs, qr, hd, fl, ek, ep, ev, er) (nI p) := by
  have e1 : vp_in (nI p) 4 := vp_in_nI hp (by decide)
  have e2 : (nI p).toNatClampNeg = p := nI_clamp (by omega)
  have e3 : vp_in (nI (p * 32 + c)) 128 := vp_in_nI (by omega) (by decide)
  have e4 : (nI (p * 32 + c)).toNatClampNeg = p * 32 + c := nI_clamp (by omega)
  have e5 : nI p * 32 + pc (nI p).toNatClampNeg = nI (p * 32 + c) := by rw [e2, ec, sk_ix32]
  have ho' : co (nI (p * 32 + c)).toNatClampNeg = 14 := by rw [e4]; exact ho
  have hk' : ca (nI (p * 32 + c)).toNatClampNeg = ca (p * 32 + c) := by rw [e4]
  unfold wpX_execute
  refine ⟨e1, nm_r e5 ⟨e3, nm_r ho' ⟨e3, nm_r hk' (br_f (by decide) (br_t (by decide) ?_))⟩⟩⟩
  unfold wX_execute_259 wpX_compute
  refine (br_f (by decide) (br_f (by decide) (br_f (by decide) (br_f (by decide) (br_f (by decide) (br_f (by decide) (br_f (by decide) (br_f (by decide) (br_f (by decide) (br_f (by decide) (br_f (by decide) (br_f (by decide) (br_f (by decide) (br_f (by decide) (br_f (by decide) (br_t rfl ?_))))))))))))))))
  simp only [e1, e2, true_implies, false_implies, not_true_eq_false, not_false_eq_true, and_true, true_and, forall_eq, implies_true]
  exact h
theorem sx_xN {post : St2 → Prop} {p c : Nat} (hp : p < 4) (hc : c < 32) (ec : pc p = nI c) (n0 : ¬ co (p * 32 + c) = 0) (n1 : ¬ co (p * 32 + c) = 1) (n2 : ¬ co (p * 32 + c) = 2) (n3 : ¬ co (p * 32 + c) = 3) (n4 : ¬ co (p * 32 + c) = 4) (n5 : ¬ co (p * 32 + c) = 5) (n6 : ¬ co (p * 32 + c) = 6) (n7 : ¬ co (p * 32 + c) = 7) (n8 : ¬ co (p * 32 + c) = 8) (n9 : ¬ co (p * 32 + c) = 9) (n10 : ¬ co (p * 32 + c) = 10) (n11 : ¬ co (p * 32 + c) = 11) (n12 : ¬ co (p * 32 + c) = 12) (n13 : ¬ co (p * 32 + c) = 13) (n14 : ¬ co (p * 32 + c) = 14) (h : post (nI np, nI nd, ls, et, nI es, co, ca, upd pc p (pc p + 1), ra, rb, sp, mk, dp, fc, fa, fb, fm, sl, st, lf, su, pg, ss, ql, qs, qr, hd, fl, ek, ep, ev, er)) : wpX_execute post (nI np, nI nd, ls, et, nI es, co, ca, pc, ra, rb, sp, mk, dp, fc, fa, fb, fm, sl, st, lf, su, pg, ss, ql, qs, qr, hd, fl, ek, ep, ev, er) (nI p) := by
  have e1 : vp_in (nI p) 4 := vp_in_nI hp (by decide)
  have e2 : (nI p).toNatClampNeg = p := nI_clamp (by omega)
  have e3 : vp_in (nI (p * 32 + c)) 128 := vp_in_nI (by omega) (by decide)
  have e4 : (nI (p * 32 + c)).toNatClampNeg = p * 32 + c := nI_clamp (by omega)
  have e5 : nI p * 32 + pc (nI p).toNatClampNeg = nI (p * 32 + c) := by rw [e2, ec, sk_ix32]
  have ho' : co (nI (p * 32 + c)).toNatClampNeg = co (p * 32 + c) := by rw [e4]
  have hk' : ca (nI (p * 32 + c)).toNatClampNeg = ca (p * 32 + c) := by rw [e4]
  unfold wpX_execute
  refine ⟨e1, nm_r e5 ⟨e3, nm_r ho' ⟨e3, nm_r hk' ?_⟩⟩⟩
  · have H : wX_execute_259 post (nI p) (co (p * 32 + c)) (ca (p * 32 + c)) (nI np) (nI nd) ls et (nI es) co ca pc ra rb sp mk dp fc fa fb fm sl st lf su pg ss ql qs qr hd fl ek ep ev er := by
      have h' : vp_in (nI p) 4 ∧ (vp_in (nI p) 4 ∧ ∀ a_pc_44, a_pc_44 = upd pc (nI p).toNatClampNeg (pc (nI p).toNatClampNeg + 1) → post (nI np, nI nd, ls, et, nI es, co, ca, a_pc_44, ra, rb, sp, mk, dp, fc, fa, fb, fm, sl, st, lf, su, pg, ss, ql, qs, qr, hd, fl, ek, ep, ev, er)) := by
        simp only [e1, e2, true_implies, false_implies, not_true_eq_false, not_false_eq_true, and_true, true_and, forall_eq, implies_true]
        exact h
      unfold wX_execute_259 wpX_compute
      exact br_c (fun _ => h') fun _ => br_c (fun _ => h') fun _ => (br_f n1 (br_f n2 (br_f n3 (br_f n4 (br_f n5 (br_f n6 (br_f n7 (br_f n8 (br_f n9 (br_f n10 (br_f n11 (br_f n12 (br_f n13 (br_f n14 trivial))))))))))))))
    exact br_c (fun _ => H) fun _ => br_c (fun _ => H) fun _ => (br_f n0 (br_f n1 (br_f n2 (br_f n3 (br_f n4 (br_f n5 (br_f n6 (br_f n7 (br_f n8 (br_f n9 (br_f n10 trivial)))))))))))
end
end
section
/-! the law's picture of one process: its queue, its pending signals, its events in the log, the serials sent to it -/
abbrev pv_dl (k : Int32) : Prop := k = 1 ∨ k = 2 ∨ k = 3 ∨ k = 4
abbrev pv_D (ek ep er : Nat → Int32) (p s i : Nat) : Prop := pv_dl (ek i) ∧ ep i = nI p ∧ er i = nI s
/-- how many of the first n events deliver serial s to process p -/
def pv_cnt (ek ep er : Nat → Int32) (p s : Nat) : Nat → Nat
  | 0 => 0
  | n + 1 => pv_cnt ek ep er p s n + (if pv_D ek ep er p s n then 1 else 0)
theorem pv_cnt_c {ek ep er ek' ep' er' : Nat → Int32} {p s : Nat} : ∀ n, (∀ i, i < n → ek' i = ek i ∧ ep' i = ep i ∧ er' i = er i) → pv_cnt ek' ep' er' p s n = pv_cnt ek ep er p s n := by
  intro n
  induction n with
  | zero => intro _; rfl
  | succ n ih =>
    intro h
    obtain ⟨h1, h2, h3⟩ := h n (by omega)
    simp only [pv_cnt, pv_D, h1, h2, h3, ih fun i hi => h i (by omega)]
theorem pv_cnt_a {ek ep er : Nat → Int32} {p s n : Nat} {k q x : Int32} : pv_cnt (upd ek n k) (upd ep n q) (upd er n x) p s (n + 1) = pv_cnt ek ep er p s n + (if pv_dl k ∧ q = nI p ∧ x = nI s then 1 else 0) := by
  have h : ∀ i, i < n → upd ek n k i = ek i ∧ upd ep n q i = ep i ∧ upd er n x i = er i := fun i hi => ⟨pk_un (by omega), pk_un (by omega), pk_un (by omega)⟩
  simp only [pv_cnt, pv_D, pk_us, pv_cnt_c n h]
theorem pv_cnt_0 {ek ep er : Nat → Int32} {p s : Nat} : ∀ n, (∀ i, i < n → ¬ pv_D ek ep er p s i) → pv_cnt ek ep er p s n = 0 := by
  intro n
  induction n with
  | zero => intro _; rfl
  | succ n ih =>
    intro h
    simp only [pv_cnt, if_neg (h n (by omega)), ih fun i hi => h i (by omega)]
def pv_S (L : Nat) (R T : Nat → Prop) : Prop := (∀ s, R s → 1 ≤ s ∧ s ≤ L) ∧ (∀ s, T s → 1 ≤ s ∧ s ≤ L) ∧ (∀ s, R s → ¬ T s)
def pv_Q (m : Nat) (gq sq : Nat → Int32) (c : Nat → Nat) (R : Nat → Prop) : Prop := (∀ j, j < m → ∃ g s, 16 ≤ g ∧ g < 32 ∧ gq j = nI g ∧ sq j = nI s ∧ R s ∧ c s = 0) ∧ (∀ i j a b, i < j → j < m → sq i = nI a → sq j = nI b → R a → R b → a < b)
def pv_P (w : Int32) (sp : Nat → Int32) (c : Nat → Nat) (T : Nat → Prop) : Prop := (∀ g, 1 ≤ g → g < 16 → bt w g = true → ∃ s, sp g = nI s ∧ T s ∧ c s = 0) ∧ (∀ g h, 1 ≤ g → g < 16 → 1 ≤ h → h < 16 → g ≠ h → bt w g = true → bt w h = true → sp g ≠ sp h)
def pv_C (al : Prop) (m : Nat) (sq : Nat → Int32) (c : Nat → Nat) (R T : Nat → Prop) : Prop := (∀ s, R s ∨ T s → c s ≤ 1) ∧ (al → ∀ s, R s → c s = 0 → ∃ j, j < m ∧ sq j = nI s)
def pv_E (ek ep ev er : Nat → Int32) (p i v a : Nat) : Prop := pv_dl (ek i) ∧ ep i = nI p ∧ ev i = nI v ∧ er i = nI a
def pv_O (n m : Nat) (gq sq ek ep ev er : Nat → Int32) (R : Nat → Prop) (p : Nat) : Prop :=
  (∀ i j v a b, i < j → j < n → 16 ≤ v → v < 32 → pv_E ek ep ev er p i v a → pv_E ek ep ev er p j v b → R a → R b → a < b) ∧
  (∀ i v a j b, i < n → 16 ≤ v → v < 32 → pv_E ek ep ev er p i v a → R a → j < m → gq j = nI v → sq j = nI b → R b → a < b)
def pv_G (n : Nat) (ek ep ev er : Nat → Int32) (R T : Nat → Prop) (p : Nat) : Prop := ∀ i, i < n → pv_dl (ek i) → ep i = nI p → (er i = 0 ∧ ek i = 2 ∧ ev i = 11) ∨ ∃ s, er i = nI s ∧ (R s ∨ T s)
def pv_A (n L : Nat) (al : Prop) (m : Nat) (gq sq : Nat → Int32) (w : Int32) (sp ek ep ev er : Nat → Int32) (R T : Nat → Prop) (p : Nat) : Prop :=
  pv_S L R T ∧ pv_Q m gq sq (fun s => pv_cnt ek ep er p s n) R ∧ pv_P w sp (fun s => pv_cnt ek ep er p s n) T ∧ pv_C al m sq (fun s => pv_cnt ek ep er p s n) R T ∧ pv_O n m gq sq ek ep ev er R p ∧ pv_G n ek ep ev er R T p
section
variable {n L m p : Nat} {al : Prop} {gq sq sp ek ep ev er : Nat → Int32} {w : Int32} {R T : Nat → Prop}
theorem pv_E_lt {k q v' x : Int32} {i v a : Nat} (hi : i < n) (h : pv_E (upd ek n k) (upd ep n q) (upd ev n v') (upd er n x) p i v a) : pv_E ek ep ev er p i v a := by
  unfold pv_E at h ⊢
  rw [pk_un (by omega), pk_un (by omega), pk_un (by omega), pk_un (by omega)] at h
  exact h
theorem pv_E_n {k q v' x : Int32} {v a : Nat} (h : pv_E (upd ek n k) (upd ep n q) (upd ev n v') (upd er n x) p n v a) : pv_dl k ∧ q = nI p ∧ v' = nI v ∧ x = nI a := by
  unfold pv_E at h
  rw [pk_us, pk_us, pk_us, pk_us] at h
  exact h
/-- the order and the contents of the log behind one more event -/
theorem pv_O_app {k q v' x : Int32} {m' : Nat} {gq' sq' : Nat → Int32} (h : pv_O n m gq sq ek ep ev er R p)
    (hq : ∀ j, j < m' → ∃ i, i < m ∧ gq' j = gq i ∧ sq' j = sq i)
    (h1 : ∀ v b, 16 ≤ v → v < 32 → pv_dl k → q = nI p → v' = nI v → x = nI b → R b → (∀ i a, i < n → pv_E ek ep ev er p i v a → R a → a < b) ∧ (∀ j c, j < m' → gq' j = nI v → sq' j = nI c → R c → b < c)) :
    pv_O (n + 1) m' gq' sq' (upd ek n k) (upd ep n q) (upd ev n v') (upd er n x) R p := by
  constructor
  · intro i j v a b hij hj h16 h32 ei ej ra rb
    by_cases e : j = n
    · subst e
      obtain ⟨d1, d2, d3, d4⟩ := pv_E_n ej
      exact (h1 v b h16 h32 d1 d2 d3 d4 rb).1 i a hij (pv_E_lt hij ei) ra
    · exact h.1 i j v a b hij (by omega) h16 h32 (pv_E_lt (by omega) ei) (pv_E_lt (by omega) ej) ra rb
  · intro i v a j b hi h16 h32 ei ra hj g1 s1 rb
    by_cases e : i = n
    · subst e
      obtain ⟨d1, d2, d3, d4⟩ := pv_E_n ei
      exact (h1 v a h16 h32 d1 d2 d3 d4 ra).2 j b hj g1 s1 rb
    · obtain ⟨i', hi', e1, e2⟩ := hq j hj
      exact h.2 i v a i' b (by omega) h16 h32 (pv_E_lt (by omega) ei) ra hi' (by rw [← e1]; exact g1) (by rw [← e2]; exact s1) rb
theorem pv_G_app {k q v' x : Int32} (h : pv_G n ek ep ev er R T p) (hx : pv_dl k → q = nI p → (x = 0 ∧ k = 2 ∧ v' = 11) ∨ ∃ s, x = nI s ∧ (R s ∨ T s)) : pv_G (n + 1) (upd ek n k) (upd ep n q) (upd ev n v') (upd er n x) R T p := by
  intro i hi
  by_cases e : i = n
  · subst e
    rw [pk_us, pk_us, pk_us, pk_us]
    exact hx
  · rw [pk_un e, pk_un e, pk_un e, pk_un e]
    exact h i (by omega)
/-- an event that delivers nothing to p -/
theorem pv_A_other {k q v' x : Int32} (hk : ¬ (pv_dl k ∧ q = nI p)) (h : pv_A n L al m gq sq w sp ek ep ev er R T p) : pv_A (n + 1) L al m gq sq w sp (upd ek n k) (upd ep n q) (upd ev n v') (upd er n x) R T p := by
  have hc : ∀ s, pv_cnt (upd ek n k) (upd ep n q) (upd er n x) p s (n + 1) = pv_cnt ek ep er p s n := fun s => by
    rw [pv_cnt_a, if_neg (fun y => hk ⟨y.1, y.2.1⟩), Nat.add_zero]
  obtain ⟨h1, h2, h3, h4, h5, h6⟩ := h
  refine ⟨h1, ?_, ?_, ?_, pv_O_app h5 (fun j hj => ⟨j, hj, rfl, rfl⟩) (fun v b _ _ d1 d2 => absurd ⟨d1, d2⟩ hk), pv_G_app h6 fun d1 d2 => absurd ⟨d1, d2⟩ hk⟩
  · simp only [hc]; exact h2
  · simp only [hc]; exact h3
  · simp only [hc]; exact h4
/-- a death by a wild PC: a TERM event with serial 0 -/
theorem pv_A_zero {q : Int32} (hL : L < 1000) (h : pv_A n L al m gq sq w sp ek ep ev er R T p) : pv_A (n + 1) L al m gq sq w sp (upd ek n 2) (upd ep n q) (upd ev n 11) (upd er n 0) R T p := by
  obtain ⟨h1, h2, h3, h4, h5, h6⟩ := h
  have hc : ∀ s, 1 ≤ s → s ≤ L → pv_cnt (upd ek n 2) (upd ep n q) (upd er n 0) p s (n + 1) = pv_cnt ek ep er p s n := fun s a b => by
    rw [pv_cnt_a, if_neg (fun y => absurd y.2.2.symm (nI_ne0 a (by omega))), Nat.add_zero]
  have hR : ∀ s, R s → pv_cnt (upd ek n 2) (upd ep n q) (upd er n 0) p s (n + 1) = pv_cnt ek ep er p s n := fun s r => hc s (h1.1 s r).1 (h1.1 s r).2
  have hT : ∀ s, T s → pv_cnt (upd ek n 2) (upd ep n q) (upd er n 0) p s (n + 1) = pv_cnt ek ep er p s n := fun s r => hc s (h1.2.1 s r).1 (h1.2.1 s r).2
  refine ⟨h1, ⟨fun j hj => ?_, h2.2⟩, ⟨fun g a b c => ?_, h3.2⟩, ⟨fun s hs => ?_, fun a s r z => ?_⟩, pv_O_app h5 (fun j hj => ⟨j, hj, rfl, rfl⟩) (fun v b _ _ _ _ _ d4 r => absurd d4.symm (nI_ne0 (h1.1 b r).1 (by have := (h1.1 b r).2; omega))), pv_G_app h6 fun _ _ => Or.inl ⟨rfl, rfl, rfl⟩⟩
  · obtain ⟨g, s, a, b, c, d, r, z⟩ := h2.1 j hj
    exact ⟨g, s, a, b, c, d, r, (hR s r).trans z⟩
  · obtain ⟨s, d, t, z⟩ := h3.1 g a b c
    exact ⟨s, d, t, (hT s t).trans z⟩
  · rcases hs with r | r
    · show pv_cnt _ _ _ _ _ _ ≤ 1
      rw [hR s r]; exact h4.1 s (Or.inl r)
    · show pv_cnt _ _ _ _ _ _ ≤ 1
      rw [hT s r]; exact h4.1 s (Or.inr r)
  · exact h4.2 a s r ((hR s r).symm.trans z)
/-- a standard signal's serial, waiting nowhere, is delivered -/
theorem pv_A_evT {k v' : Int32} {s0 : Nat} (hL : L < 1000) (ht : T s0) (hc0 : pv_cnt ek ep er p s0 n = 0) (hw : ∀ g, 1 ≤ g → g < 16 → bt w g = true → sp g ≠ nI s0) (hk : pv_dl k) (h : pv_A n L al m gq sq w sp ek ep ev er R T p) : pv_A (n + 1) L al m gq sq w sp (upd ek n k) (upd ep n (nI p)) (upd ev n v') (upd er n (nI s0)) R T p := by
  obtain ⟨h1, h2, h3, h4, h5, h6⟩ := h
  have hs0 := h1.2.1 s0 ht
  have hc : ∀ s, s ≤ L → s ≠ s0 → pv_cnt (upd ek n k) (upd ep n (nI p)) (upd er n (nI s0)) p s (n + 1) = pv_cnt ek ep er p s n := fun s a b => by
    rw [pv_cnt_a, if_neg (fun y => b ((nI_eq (by omega) (by omega)).mp y.2.2).symm), Nat.add_zero]
  have hc1 : pv_cnt (upd ek n k) (upd ep n (nI p)) (upd er n (nI s0)) p s0 (n + 1) = 1 := by
    rw [pv_cnt_a, if_pos ⟨hk, rfl, rfl⟩, hc0]
  have hR : ∀ s, R s → pv_cnt (upd ek n k) (upd ep n (nI p)) (upd er n (nI s0)) p s (n + 1) = pv_cnt ek ep er p s n := fun s r => hc s (h1.1 s r).2 fun e => h1.2.2 s r (e ▸ ht)
  refine ⟨h1, ⟨fun j hj => ?_, h2.2⟩, ⟨fun g a b c => ?_, h3.2⟩, ⟨fun s hs => ?_, fun a s r z => ?_⟩, pv_O_app h5 (fun j hj => ⟨j, hj, rfl, rfl⟩) (fun v b _ _ _ _ _ d4 r => absurd (((nI_eq (by omega) (by have := (h1.1 b r).2; omega)).mp d4) ▸ ht) (h1.2.2 b r)), pv_G_app h6 fun _ _ => Or.inr ⟨s0, rfl, Or.inr ht⟩⟩
  · obtain ⟨g, s, a, b, c, d, r, z⟩ := h2.1 j hj
    exact ⟨g, s, a, b, c, d, r, (hR s r).trans z⟩
  · obtain ⟨s, d, t, z⟩ := h3.1 g a b c
    have e : s ≠ s0 := fun e => hw g a b c (e ▸ d)
    exact ⟨s, d, t, (hc s (h1.2.1 s t).2 e).trans z⟩
  · show pv_cnt _ _ _ _ _ _ ≤ 1
    by_cases e : s = s0
    · rw [e, hc1]; exact Nat.le_refl 1
    · rcases hs with r | r
      · rw [hR s r]; exact h4.1 s (Or.inl r)
      · rw [hc s (h1.2.1 s r).2 e]; exact h4.1 s (Or.inr r)
  · exact h4.2 a s r ((hR s r).symm.trans z)
/-- the pending word changes to a part of it -/
theorem pv_A_sub {w' : Int32} {sp' : Nat → Int32} (hw : ∀ g, 1 ≤ g → g < 16 → bt w' g = true → bt w g = true ∧ sp' g = sp g) (h : pv_A n L al m gq sq w sp ek ep ev er R T p) : pv_A n L al m gq sq w' sp' ek ep ev er R T p := by
  obtain ⟨h1, h2, h3, h4, h5, h6⟩ := h
  refine ⟨h1, h2, ⟨fun g a b c => ?_, fun g g' a b a' b' e c c' => ?_⟩, h4, h5, h6⟩
  · rw [(hw g a b c).2]
    exact h3.1 g a b (hw g a b c).1
  · rw [(hw g a b c).2, (hw g' a' b' c').2]
    exact h3.2 g g' a b a' b' e (hw g a b c).1 (hw g' a' b' c').1
theorem pv_A_die (h : pv_A n L al m gq sq w sp ek ep ev er R T p) (al' : Prop) (hal : ¬ al') (gq' sq' sp' : Nat → Int32) : pv_A n L al' 0 gq' sq' 0 sp' ek ep ev er R T p := by
  obtain ⟨h1, h2, h3, h4, h5, h6⟩ := h
  refine ⟨h1, ⟨fun j hj => absurd hj (by omega), fun i j a b _ hj => absurd hj (by omega)⟩, ⟨fun g a b c => ?_, fun g g' a b a' b' e c => ?_⟩, ⟨h4.1, fun a => absurd a hal⟩, ⟨h5.1, fun i v a j b _ _ _ _ _ hj => absurd hj (by omega)⟩, h6⟩
  · rw [b_0] at c; exact absurd c (by decide)
  · rw [b_0] at c; exact absurd c (by decide)
theorem pv_A_L {L' : Nat} (hL : L ≤ L') (h : pv_A n L al m gq sq w sp ek ep ev er R T p) : pv_A n L' al m gq sq w sp ek ep ev er R T p := by
  obtain ⟨h1, h2⟩ := h
  exact ⟨⟨fun s r => ⟨(h1.1 s r).1, Nat.le_trans (h1.1 s r).2 hL⟩, fun s r => ⟨(h1.2.1 s r).1, Nat.le_trans (h1.2.1 s r).2 hL⟩, h1.2.2⟩, h2⟩
/-- no event carries a serial beyond L -/
theorem pv_new (hL : L < 1000) (h : pv_A n L al m gq sq w sp ek ep ev er R T p) : pv_cnt ek ep er p (L + 1) n = 0 := by
  obtain ⟨h1, _, _, _, _, h6⟩ := h
  apply pv_cnt_0
  intro i hi d
  rcases h6 i hi d.1 d.2.1 with ⟨z, _, _⟩ | ⟨s, e, rt⟩
  · exact absurd (d.2.2.symm.trans z) (nI_ne0 (by omega) (by omega))
  · have hs : s ≤ L := rt.elim (fun r => (h1.1 s r).2) (fun r => (h1.2.1 s r).2)
    have : s = L + 1 := (nI_eq (by omega) (by omega)).mp (e.symm.trans d.2.2)
    omega
theorem pv_A_newT (hL : L < 1000) (h : pv_A n L al m gq sq w sp ek ep ev er R T p) : pv_A n (L + 1) al m gq sq w sp ek ep ev er R (fun s => T s ∨ s = L + 1) p := by
  have hn := pv_new hL h
  obtain ⟨h1, h2, h3, h4, h5, h6⟩ := h
  refine ⟨⟨fun s r => ⟨(h1.1 s r).1, by have := (h1.1 s r).2; omega⟩, fun s t => ?_, fun s r t => ?_⟩, h2, ⟨fun g a b c => ?_, h3.2⟩, ⟨fun s hs => ?_, h4.2⟩, h5, fun i hi a b => ?_⟩
  · rcases t with t | t
    · exact ⟨(h1.2.1 s t).1, by have := (h1.2.1 s t).2; omega⟩
    · omega
  · rcases t with t | t
    · exact h1.2.2 s r t
    · have := (h1.1 s r).2; omega
  · obtain ⟨s, d, t, z⟩ := h3.1 g a b c
    exact ⟨s, d, Or.inl t, z⟩
  · rcases hs with r | t | t
    · exact h4.1 s (Or.inl r)
    · exact h4.1 s (Or.inr t)
    · subst t
      show pv_cnt _ _ _ _ _ _ ≤ 1
      rw [hn]; exact Nat.zero_le 1
  · rcases h6 i hi a b with z | ⟨s, e, r | t⟩
    · exact Or.inl z
    · exact Or.inr ⟨s, e, Or.inl r⟩
    · exact Or.inr ⟨s, e, Or.inr (Or.inl t)⟩
theorem pv_A_mark {w' : Int32} {sp' : Nat → Int32} {g0 : Nat} (hL : L < 1000) (hw : ∀ g, 1 ≤ g → g < 16 → bt w' g = true → g = g0 ∨ (bt w g = true ∧ sp' g = sp g)) (hs : sp' g0 = nI (L + 1)) (h : pv_A n L al m gq sq w sp ek ep ev er R T p) : pv_A n (L + 1) al m gq sq w' sp' ek ep ev er R (fun s => T s ∨ s = L + 1) p := by
  have hn := pv_new hL h
  obtain ⟨h1, h2, h3, h4, h5, h6⟩ := pv_A_newT hL h
  have hT := h.1.2.1
  have h3' := h.2.2.1
  refine ⟨h1, h2, ⟨fun g a b c => ?_, fun g g' a b a' b' e c c' => ?_⟩, h4, h5, h6⟩
  · rcases hw g a b c with e | ⟨c1, c2⟩
    · subst e
      exact ⟨L + 1, hs, Or.inr rfl, hn⟩
    · rw [c2]
      exact h3.1 g a b c1
  · have key : ∀ x, 1 ≤ x → x < 16 → bt w x = true → sp x ≠ nI (L + 1) := fun x x1 x2 x3 z => by
      obtain ⟨s, d, t, _⟩ := h3'.1 x x1 x2 x3
      have := (hT s t).2
      have : s = L + 1 := (nI_eq (by omega) (by omega)).mp (d.symm.trans z)
      omega
    rcases hw g a b c with x | ⟨c1, c2⟩
    · rcases hw g' a' b' c' with y | ⟨d1, d2⟩
      · exact absurd (x.trans y.symm) e
      · subst x
        rw [hs, d2]
        exact (key g' a' b' d1).symm
    · rcases hw g' a' b' c' with y | ⟨d1, d2⟩
      · subst y
        rw [hs, c2]
        exact key g a b c1
      · rw [c2, d2]
        exact h3'.2 g g' a b a' b' e c1 d1
theorem pv_A_enq {gq' sq' : Nat → Int32} {g0 : Nat} (hL : L < 1000) (h16 : 16 ≤ g0) (h32 : g0 < 32) (hq : ∀ j, j < m → gq' j = gq j ∧ sq' j = sq j) (hg : gq' m = nI g0) (hs : sq' m = nI (L + 1)) (h : pv_A n L al m gq sq w sp ek ep ev er R T p) : pv_A n (L + 1) al (m + 1) gq' sq' w sp ek ep ev er (fun s => R s ∨ s = L + 1) T p := by
  have hn := pv_new hL h
  obtain ⟨h1, h2, h3, h4, h5, h6⟩ := h
  have hE : ∀ i v a, i < n → pv_E ek ep ev er p i v a → (R a ∨ a = L + 1) → a ≤ L + 1 → R a := fun i v a hi e r ha => by
    rcases r with r | r
    · exact r
    · subst r
      rcases h6 i hi e.1 e.2.1 with ⟨z, _, _⟩ | ⟨s, e', rt⟩
      · exact absurd (e.2.2.2.symm.trans z) (nI_ne0 (by omega) (by omega))
      · have hs : s ≤ L := rt.elim (fun r => (h1.1 s r).2) (fun r => (h1.2.1 s r).2)
        have : s = L + 1 := (nI_eq (by omega) (by omega)).mp (e'.symm.trans e.2.2.2)
        omega
  have hb : ∀ s, (R s ∨ s = L + 1) → s ≤ L + 1 := fun s r => r.elim (fun r => by have := (h1.1 s r).2; omega) (fun r => by omega)
  have hQ : ∀ j a, j < m → sq j = nI a → (R a ∨ a = L + 1) → R a := fun j a hj e r => by
    obtain ⟨g, s, _, _, _, d, r', _⟩ := h2.1 j hj
    have := hb a r
    have := (h1.1 s r').2
    have : s = a := (nI_eq (by omega) (by omega)).mp (d.symm.trans e)
    exact this ▸ r'
  have hm : ∀ a, nI (L + 1) = nI a → (R a ∨ a = L + 1) → a = L + 1 := fun a e r => by
    have := hb a r
    exact ((nI_eq (by omega) (by omega)).mp e).symm
  refine ⟨⟨fun s r => ?_, fun s t => ⟨(h1.2.1 s t).1, by have := (h1.2.1 s t).2; omega⟩, fun s r t => ?_⟩, ⟨fun j hj => ?_, fun i j a b hij hj e1 e2 ra rb => ?_⟩, h3, ⟨fun s hs' => ?_, fun a s r z => ?_⟩, ⟨fun i j v a b hij hj x y e1 e2 ra rb => ?_, fun i v a j b hi x y e1 ra hj e2 e3 rb => ?_⟩, fun i hi a b => ?_⟩
  · rcases r with r | r
    · exact ⟨(h1.1 s r).1, by have := (h1.1 s r).2; omega⟩
    · omega
  · rcases r with r | r
    · exact h1.2.2 s r t
    · have := (h1.2.1 s t).2; omega
  · by_cases e : j = m
    · subst e
      exact ⟨g0, L + 1, h16, h32, hg, hs, Or.inr rfl, hn⟩
    · obtain ⟨q1, q2⟩ := hq j (by omega)
      obtain ⟨g, s, a, b, c, d, r, z⟩ := h2.1 j (by omega)
      exact ⟨g, s, a, b, q1.trans c, q2.trans d, Or.inl r, z⟩
  · have hi' : sq i = nI a := by rw [← (hq i (by omega)).2]; exact e1
    have hra := hQ i a (by omega) hi' ra
    by_cases e : j = m
    · subst e
      have := hm b (hs.symm.trans e2) rb
      have := (h1.1 a hra).2
      omega
    · have hj' : sq j = nI b := by rw [← (hq j (by omega)).2]; exact e2
      exact h2.2 i j a b hij (by omega) hi' hj' hra (hQ j b (by omega) hj' rb)
  · rcases hs' with (r | r) | t
    · exact h4.1 s (Or.inl r)
    · subst r
      show pv_cnt _ _ _ _ _ _ ≤ 1
      rw [hn]; exact Nat.zero_le 1
    · exact h4.1 s (Or.inr t)
  · rcases r with r | r
    · obtain ⟨j, hj, e⟩ := h4.2 a s r z
      exact ⟨j, by omega, (hq j hj).2.trans e⟩
    · subst r
      exact ⟨m, by omega, hs⟩
  · exact h5.1 i j v a b hij hj x y e1 e2 (hE i v a (by omega) e1 ra (hb a ra)) (hE j v b hj e2 rb (hb b rb))
  · have hra := hE i v a hi e1 ra (hb a ra)
    by_cases e : j = m
    · subst e
      have := hm b (hs.symm.trans e3) rb
      have := (h1.1 a hra).2
      omega
    · have hg' : gq j = nI v := by rw [← (hq j (by omega)).1]; exact e2
      have hj' : sq j = nI b := by rw [← (hq j (by omega)).2]; exact e3
      exact h5.2 i v a j b hi x y e1 hra (by omega) hg' hj' (hQ j b (by omega) hj' rb)
  · rcases h6 i hi a b with z | ⟨s, e, r | t⟩
    · exact Or.inl z
    · exact Or.inr ⟨s, e, Or.inl (Or.inl r)⟩
    · exact Or.inr ⟨s, e, Or.inr t⟩
/-- the entry j0 leaves the queue and is delivered -/
theorem pv_A_rem {k v' : Int32} {gq' sq' : Nat → Int32} {j0 s0 : Nat} (hL : L < 1000) (hj0 : j0 < m + 1) (hs0 : sq j0 = nI s0) (hr0 : R s0)
    (hlo : ∀ j, j < j0 → gq' j = gq j ∧ sq' j = sq j) (hhi : ∀ j, j0 ≤ j → j < m → gq' j = gq (j + 1) ∧ sq' j = sq (j + 1)) (hd : ∀ i, i < j0 → gq i ≠ gq j0)
    (hv : v' = gq j0 ∨ v' = 11) (hk : pv_dl k) (h : pv_A n L al (m + 1) gq sq w sp ek ep ev er R T p) : pv_A (n + 1) L al m gq' sq' w sp (upd ek n k) (upd ep n (nI p)) (upd ev n v') (upd er n (nI s0)) R T p := by
  obtain ⟨h1, h2, h3, h4, h5, h6⟩ := h
  have bR := fun s r => (h1.1 s r).2
  have hinj : ∀ a b, R a → R b → nI a = nI b → a = b := fun a b ra rb e => (nI_eq (by have := bR a ra; omega) (by have := bR b rb; omega)).mp e
  have hc0 : pv_cnt ek ep er p s0 n = 0 := by
    obtain ⟨g, s, _, _, _, d, r, z⟩ := h2.1 j0 hj0
    have := hinj s s0 r hr0 (d.symm.trans hs0)
    exact this ▸ z
  have hc : ∀ s, s ≤ L → s ≠ s0 → pv_cnt (upd ek n k) (upd ep n (nI p)) (upd er n (nI s0)) p s (n + 1) = pv_cnt ek ep er p s n := fun s a b => by
    have := bR s0 hr0
    rw [pv_cnt_a, if_neg (fun y => b ((nI_eq (by omega) (by omega)).mp y.2.2).symm), Nat.add_zero]
  have hc1 : pv_cnt (upd ek n k) (upd ep n (nI p)) (upd er n (nI s0)) p s0 (n + 1) = 1 := by
    rw [pv_cnt_a, if_pos ⟨hk, rfl, rfl⟩, hc0]
  have hold : ∀ j, j < m → ∃ i, i < m + 1 ∧ i ≠ j0 ∧ gq' j = gq i ∧ sq' j = sq i ∧ (j < j0 → i = j) ∧ (j0 ≤ j → i = j + 1) := fun j hj => by
    by_cases e : j < j0
    · exact ⟨j, by omega, by omega, (hlo j e).1, (hlo j e).2, fun _ => rfl, fun z => by omega⟩
    · exact ⟨j + 1, by omega, by omega, (hhi j (by omega) hj).1, (hhi j (by omega) hj).2, fun z => by omega, fun _ => rfl⟩
  have hne : ∀ i s, i < m + 1 → i ≠ j0 → sq i = nI s → R s → s ≠ s0 := fun i s hi e es rs z => by
    subst z
    rcases Nat.lt_or_gt_of_ne e with y | y
    · exact absurd (h2.2 i j0 s s y hj0 es hs0 rs rs) (Nat.lt_irrefl _)
    · exact absurd (h2.2 j0 i s s y hi hs0 es rs rs) (Nat.lt_irrefl _)
  have hT : ∀ s, T s → pv_cnt (upd ek n k) (upd ep n (nI p)) (upd er n (nI s0)) p s (n + 1) = pv_cnt ek ep er p s n := fun s t => hc s (h1.2.1 s t).2 fun e => h1.2.2 s0 hr0 (e ▸ t)
  refine ⟨h1, ⟨fun j hj => ?_, fun i j a b hij hj e1 e2 ra rb => ?_⟩, ⟨fun g a b c => ?_, h3.2⟩, ⟨fun s hs => ?_, fun a s r z => ?_⟩, pv_O_app h5 (fun j hj => ?_) (fun v b x y _ _ d3 d4 rb => ⟨fun i a hi e ra => ?_, fun j c hj e1 e2 rc => ?_⟩), pv_G_app h6 fun _ _ => Or.inr ⟨s0, rfl, Or.inl hr0⟩⟩
  · obtain ⟨i, hi, e0, e1, e2, _⟩ := hold j hj
    obtain ⟨g, s, a, b, c, d, r, z⟩ := h2.1 i hi
    exact ⟨g, s, a, b, e1.trans c, e2.trans d, r, (hc s (bR s r) (hne i s hi e0 d r)).trans z⟩
  · obtain ⟨i', hi', _, _, f1, f2, f3⟩ := hold i (by omega)
    obtain ⟨j', hj', _, _, g1, g2, g3⟩ := hold j hj
    have : i' < j' := by
      by_cases x : i < j0
      · by_cases y : j < j0
        · have := f2 x; have := g2 y; omega
        · have := f2 x; have := g3 (by omega); omega
      · have := f3 (by omega); have := g3 (by omega); omega
    exact h2.2 i' j' a b this hj' (by rw [← f1]; exact e1) (by rw [← g1]; exact e2) ra rb
  · obtain ⟨s, d, t, z⟩ := h3.1 g a b c
    exact ⟨s, d, t, (hT s t).trans z⟩
  · show pv_cnt _ _ _ _ _ _ ≤ 1
    by_cases e : s = s0
    · rw [e, hc1]; exact Nat.le_refl 1
    · rcases hs with r | t
      · rw [hc s (bR s r) e]; exact h4.1 s (Or.inl r)
      · rw [hT s t]; exact h4.1 s (Or.inr t)
  · by_cases e : s = s0
    · subst e
      exact absurd (hc1.symm.trans z) (by decide)
    · obtain ⟨i, hi, es⟩ := h4.2 a s r ((hc s (bR s r) e).symm.trans z)
      have e0 : i ≠ j0 := fun y => e (hinj s s0 r hr0 (by rw [← es, y]; exact hs0))
      by_cases y : i < j0
      · exact ⟨i, by omega, (hlo i y).2.trans es⟩
      · have hh := hhi (i - 1) (by omega) (by omega)
        refine ⟨i - 1, by omega, ?_⟩
        rw [hh.2, show i - 1 + 1 = i by omega]
        exact es
  · obtain ⟨i, hi, _, e1, e2, _⟩ := hold j hj
    exact ⟨i, hi, e1, e2⟩
  · have hb : b = s0 := hinj b s0 rb hr0 d4.symm
    subst hb
    rcases hv with hv | hv
    · exact h5.2 i v a j0 b hi x y e ra hj0 (hv.symm.trans d3) hs0 rb
    · exact absurd ((nI_eq (a := 11) (by decide) (by omega)).mp (hv.symm.trans d3)) (by omega)
  · have hb : b = s0 := hinj b s0 rb hr0 d4.symm
    subst hb
    rcases hv with hv | hv
    · obtain ⟨i, hi, e0, g1, g2, g3, g4⟩ := hold j hj
      have hgi : gq i = gq j0 := by rw [← g1, e1, ← d3, hv]
      have : ¬ i < j0 := fun z => hd i z hgi
      exact h2.2 j0 i b c (by omega) hi hs0 (by rw [← g2]; exact e2) rb rc
    · exact absurd ((nI_eq (a := 11) (by decide) (by omega)).mp (hv.symm.trans d3)) (by omega)
end
end
section
/-! the picture of the whole state -/
def pv_X (nd : Nat) (co dp ql qs hd : Nat → Int32) : Prop := (1 ≤ nd ∧ nd ≤ 2) ∧ (∀ j, ¬ co j = 6) ∧ sk_DP dp ∧ sk_QL ql qs ∧ sk_HD hd
def pv_AP (n L : Nat) (lf pg ss ql qs qr ek ep ev er : Nat → Int32) (R T : Nat → Prop) (p : Nat) : Prop := ∃ m, (ql p = nI m ∧ (lf p = 0 ∨ lf p = 3 ∨ lf p = 4)) ∧ m ≤ 8 ∧ pv_A n L (lf p = 0) m (fun j => qs (p * 8 + j)) (fun j => qr (p * 8 + j)) (pg p) (fun g => ss (p * 16 + g)) ek ep ev er R T p
def pv_GA (n L : Nat) (lf pg ss ql qs qr ek ep ev er : Nat → Int32) (R T : Nat → Nat → Prop) : Prop := (∀ p, p < 2 → pv_AP n L lf pg ss ql qs qr ek ep ev er (R p) (T p) p) ∧ (∀ i, i < n → pv_dl (ek i) → ep i = nI 0 ∨ ep i = nI 1)
theorem pv_A_cong {n L m p : Nat} {al al' : Prop} {gq sq sp gq' sq' sp' ek ep ev er : Nat → Int32} {w : Int32} {R T : Nat → Prop} (hq : ∀ j, j < m → gq' j = gq j ∧ sq' j = sq j) (hs : ∀ g, 1 ≤ g → g < 16 → sp' g = sp g) (ha : al' → al) (h : pv_A n L al m gq sq w sp ek ep ev er R T p) : pv_A n L al' m gq' sq' w sp' ek ep ev er R T p := by
  obtain ⟨h1, h2, h3, h4, h5, h6⟩ := h
  refine ⟨h1, ⟨fun j hj => ?_, fun i j a b hij hj e1 e2 ra rb => ?_⟩, ⟨fun g a b c => ?_, fun g g' a b a' b' e c c' => ?_⟩, ⟨h4.1, fun a s r z => ?_⟩, ⟨h5.1, fun i v a j b hi x y e1 ra hj e2 e3 rb => ?_⟩, h6⟩
  · rw [(hq j hj).1, (hq j hj).2]
    exact h2.1 j hj
  · rw [(hq i (by omega)).2] at e1
    rw [(hq j hj).2] at e2
    exact h2.2 i j a b hij hj e1 e2 ra rb
  · rw [hs g a b]
    exact h3.1 g a b c
  · rw [hs g a b, hs g' a' b']
    exact h3.2 g g' a b a' b' e c c'
  · obtain ⟨j, hj, e⟩ := h4.2 (ha a) s r z
    exact ⟨j, hj, (hq j hj).2.trans e⟩
  · rw [(hq j hj).1] at e2
    rw [(hq j hj).2] at e3
    exact h5.2 i v a j b hi x y e1 ra hj e2 e3 rb
section
variable {nd es : Nat} {ls et : Int32} {co ca pc ra rb sp mk dp fc fa fb fm sl st lf su pg ss ql qs qr hd fl ek ep ev er : Nat → Int32}
variable {n m L p : Nat} {R T : Nat → Nat → Prop} {lf1 pg1 ss1 ql1 qs1 qr1 : Nat → Int32}
/-- what belongs to process q is left alone -/
def pv_sq (lf pg ss ql qs qr lf1 pg1 ss1 ql1 qs1 qr1 : Nat → Int32) (q : Nat) : Prop := lf1 q = lf q ∧ pg1 q = pg q ∧ ql1 q = ql q ∧ (∀ j, j < 8 → qs1 (q * 8 + j) = qs (q * 8 + j) ∧ qr1 (q * 8 + j) = qr (q * 8 + j)) ∧ (∀ g, g < 16 → ss1 (q * 16 + g) = ss (q * 16 + g))
theorem pv_AP_same {q : Nat} {R T : Nat → Prop} (ho : pv_sq lf pg ss ql qs qr lf1 pg1 ss1 ql1 qs1 qr1 q) (h : pv_AP n L lf pg ss ql qs qr ek ep ev er R T q) : pv_AP n L lf1 pg1 ss1 ql1 qs1 qr1 ek ep ev er R T q := by
  obtain ⟨o1, o2, o3, o4, o5⟩ := ho
  obtain ⟨l, e, hl, a⟩ := h
  refine ⟨l, ⟨o3.trans e.1, by rw [o1]; exact e.2⟩, hl, ?_⟩
  rw [o2]
  exact pv_A_cong (fun j hj => o4 j (by omega)) (fun g _ hg => o5 g hg) (fun z => o1.symm.trans z) a
theorem pv_AP_other {q : Nat} {R T : Nat → Prop} {k x v s : Int32} (hk : ¬ (pv_dl k ∧ x = nI q)) (h : pv_AP n L lf pg ss ql qs qr ek ep ev er R T q) : pv_AP (n + 1) L lf pg ss ql qs qr (upd ek n k) (upd ep n x) (upd ev n v) (upd er n s) R T q := by
  obtain ⟨l, e, hl, a⟩ := h
  exact ⟨l, e, hl, pv_A_other hk a⟩
theorem pv_ne {a b : Nat} (ha : a < 1000) (hb : b < 1000) (h : a ≠ b) : ¬ nI a = nI b := fun z => h ((nI_eq (by omega) (by omega)).mp z)
/-- process p does something, with one event of its own -/
theorem pv_GA_ev {k v s : Int32} (hp : p < 2) (h : pv_GA n L lf pg ss ql qs qr ek ep ev er R T) (hn : pv_AP (n + 1) L lf1 pg1 ss1 ql1 qs1 qr1 (upd ek n k) (upd ep n (nI p)) (upd ev n v) (upd er n s) (R p) (T p) p) (ho : ∀ q, q < 2 → q ≠ p → pv_sq lf pg ss ql qs qr lf1 pg1 ss1 ql1 qs1 qr1 q) : pv_GA (n + 1) L lf1 pg1 ss1 ql1 qs1 qr1 (upd ek n k) (upd ep n (nI p)) (upd ev n v) (upd er n s) R T := by
  refine ⟨fun q hq => ?_, fun i hi => ?_⟩
  · by_cases e : q = p
    · subst e; exact hn
    · exact pv_AP_other (fun y => pv_ne (by omega) (by omega) (fun z => e z.symm) y.2) (pv_AP_same (ho q hq e) (h.1 q hq))
  · by_cases e : i = n
    · subst e
      rw [pk_us, pk_us]
      intro _
      have : p = 0 ∨ p = 1 := by omega
      rcases this with rfl | rfl
      · exact Or.inl rfl
      · exact Or.inr rfl
    · rw [pk_un e, pk_un e]
      exact h.2 i (by omega)
theorem pv_GA_no (h : pv_GA n L lf pg ss ql qs qr ek ep ev er R T) (hn : pv_AP n L lf1 pg1 ss1 ql1 qs1 qr1 ek ep ev er (R p) (T p) p) (ho : ∀ q, q < 2 → q ≠ p → pv_sq lf pg ss ql qs qr lf1 pg1 ss1 ql1 qs1 qr1 q) : pv_GA n L lf1 pg1 ss1 ql1 qs1 qr1 ek ep ev er R T := by
  refine ⟨fun q hq => ?_, h.2⟩
  by_cases e : q = p
  · subst e; exact hn
  · exact pv_AP_same (ho q hq e) (h.1 q hq)
/-- an event that delivers nothing -/
theorem pv_GA_nd {k x v s : Int32} (hk : ¬ pv_dl k) (h : pv_GA n L lf pg ss ql qs qr ek ep ev er R T) : pv_GA (n + 1) L lf pg ss ql qs qr (upd ek n k) (upd ep n x) (upd ev n v) (upd er n s) R T := by
  refine ⟨fun q hq => pv_AP_other (fun y => hk y.1) (h.1 q hq), fun i hi => ?_⟩
  by_cases e : i = n
  · subst e
    rw [pk_us]
    exact fun y => absurd y hk
  · rw [pk_un e, pk_un e]
    exact h.2 i (by omega)
theorem pv_sq_die {q : Nat} {x : Int32} (hq : q ≠ p) : pv_sq lf pg ss ql qs qr (upd lf p x) (upd pg p 0) (sk_clr ss (p * 16) 16) (upd ql p 0) qs qr q :=
  ⟨pk_un hq, pk_un hq, pk_un hq, fun _ _ => ⟨rfl, rfl⟩, fun g hg => sk_clr_out 16 (by omega)⟩
theorem pv_GA_die {x : Int32} (hp : p < 2) (hx : x = 3 ∨ x = 4) (h : pv_GA n L lf pg ss ql qs qr ek ep ev er R T) : pv_GA n L (upd lf p x) (upd pg p 0) (sk_clr ss (p * 16) 16) (upd ql p 0) qs qr ek ep ev er R T := by
  refine pv_GA_no (p := p) h ?_ fun q _ hq => pv_sq_die hq
  obtain ⟨l, e, hl, a⟩ := h.1 p hp
  refine ⟨0, ⟨by rw [pk_us]; exact nI_0.symm, by rw [pk_us]; exact Or.inr hx⟩, by omega, ?_⟩
  rw [pk_us, pk_us]
  exact pv_A_die a _ (fun z => by subst z; exact absurd hx (by decide)) _ _ _
theorem pv_GA_zero (hp : p < 2) (hL : L < 1000) (h : pv_GA n L lf pg ss ql qs qr ek ep ev er R T) : pv_GA (n + 1) L lf pg ss ql qs qr (upd ek n 2) (upd ep n (nI p)) (upd ev n 11) (upd er n 0) R T := by
  refine pv_GA_ev hp h ?_ fun q _ _ => ⟨rfl, rfl, rfl, fun _ _ => ⟨rfl, rfl⟩, fun _ _ => rfl⟩
  obtain ⟨l, e, hl, a⟩ := h.1 p hp
  exact ⟨l, e, hl, pv_A_zero hL a⟩
/-- bits of the pending word behind a drop -/
theorem pv_bit_d {s g : Nat} (hs : s < 16) (hg : g < 16) : bt (pg p &&& (((1 : Int32) <<< (nI s &&& 31)) ^^^ (-1))) g = (bt (pg p) g && !decide (g = s)) := by
  rw [b_and, sk_not _ (by omega), sk_bit (by omega)]
theorem pv_sub_d {s : Nat} (hs : s < 16) : ∀ g, 1 ≤ g → g < 16 → bt (upd pg p (pg p &&& (((1 : Int32) <<< (nI s &&& 31)) ^^^ (-1))) p) g = true → (g ≠ s ∧ bt (pg p) g = true ∧ upd ss (p * 16 + s) 0 (p * 16 + g) = ss (p * 16 + g)) := by
  intro g _ hg h
  rw [pk_us, pv_bit_d hs hg] at h
  by_cases e : g = s
  · rw [decide_eq_true e] at h
    simp at h
  · rw [decide_eq_false e] at h
    exact ⟨e, by simpa using h, pk_un (by omega)⟩
theorem pv_sq_d {q s : Nat} (hs : s < 16) (hq : q ≠ p) {x y : Int32} : pv_sq lf pg ss ql qs qr lf (upd pg p x) (upd ss (p * 16 + s) y) ql qs qr q :=
  ⟨rfl, pk_un hq, rfl, fun _ _ => ⟨rfl, rfl⟩, fun g hg => pk_un (by omega)⟩
/-- a pending signal is dropped -/
theorem pv_GA_drop {s : Nat} (hp : p < 2) (hs : s < 16) (h : pv_GA n L lf pg ss ql qs qr ek ep ev er R T) : pv_GA n L lf (upd pg p (pg p &&& (((1 : Int32) <<< (nI s &&& 31)) ^^^ (-1)))) (upd ss (p * 16 + s) 0) ql qs qr ek ep ev er R T := by
  refine pv_GA_no (p := p) h ?_ fun q _ hq => pv_sq_d hs hq
  obtain ⟨l, e, hl, a⟩ := h.1 p hp
  exact ⟨l, e, hl, pv_A_sub (fun g a b c => (pv_sub_d hs g a b c).2) a⟩
/-- a pending signal is delivered -/
theorem pv_GA_pend {g : Nat} {k v : Int32} (hp : p < 2) (hL : L < 1000) (h1 : 1 ≤ g) (hg : g < 16) (hb : bt (pg p) g = true) (hk : pv_dl k) (h : pv_GA n L lf pg ss ql qs qr ek ep ev er R T) : pv_GA (n + 1) L lf (upd pg p (pg p &&& (((1 : Int32) <<< (nI g &&& 31)) ^^^ (-1)))) (upd ss (p * 16 + g) 0) ql qs qr (upd ek n k) (upd ep n (nI p)) (upd ev n v) (upd er n (ss (p * 16 + g))) R T := by
  refine pv_GA_ev hp h ?_ fun q _ hq => pv_sq_d hg hq
  obtain ⟨l, e, hl, a⟩ := h.1 p hp
  obtain ⟨s, d, t, z⟩ := a.2.2.1.1 g h1 hg hb
  refine ⟨l, e, hl, ?_⟩
  dsimp only at d
  rw [d]
  refine pv_A_evT hL t z (fun g' a' b' c' => ?_) hk (pv_A_sub (fun g a b c => (pv_sub_d hg g a b c).2) a)
  obtain ⟨x, y, w⟩ := pv_sub_d (ss := ss) hg g' a' b' c'
  rw [w]
  have hh := a.2.2.1.2 g' g a' b' h1 hg x y hb
  dsimp only at hh
  rw [d] at hh
  exact hh
theorem pv_GA_rem {l j g : Nat} {k v : Int32} (hp : p < 2) (hL : L < 1000) (hl : l + 1 ≤ 8) (el : ql p = nI (l + 1)) (hj : j ≤ l) (hm : ∀ i, i < j → qs (p * 8 + i) ≠ qs (p * 8 + j)) (hq : qs (p * 8 + j) = nI g) (hv : v = nI g ∨ v = 11) (hk : pv_dl k) (h : pv_GA n L lf pg ss ql qs qr ek ep ev er R T) : pv_GA (n + 1) L lf pg ss (upd ql p (nI l)) (sk_shf qs (p * 8 + j) (l - j)) (sk_shf qr (p * 8 + j) (l - j)) (upd ek n k) (upd ep n (nI p)) (upd ev n v) (upd er n (qr (p * 8 + j))) R T := by
  refine pv_GA_ev hp h ?_ fun q _ hq' => ⟨rfl, rfl, pk_un hq', fun i hi => ⟨sk_shf_hi _ (by omega), sk_shf_hi _ (by omega)⟩, fun _ _ => rfl⟩
  obtain ⟨l', e, hl', a⟩ := h.1 p hp
  have : l' = l + 1 := (nI_eq (by omega) (by omega)).mp (e.1.symm.trans el)
  subst this
  obtain ⟨g', s, _, _, _, d, r, _⟩ := a.2.1.1 j (by omega)
  dsimp only at d
  refine ⟨l, ⟨pk_us, e.2⟩, by omega, ?_⟩
  rw [d]
  refine pv_A_rem (j0 := j) hL (by omega) d r (fun i hi => ?_) (fun i h1 h2 => ?_) hm (by rw [hq]; exact hv) hk a
  · exact ⟨sk_shf_hi _ (by omega), sk_shf_hi _ (by omega)⟩
  · have e1 := sk_shf_in (f := qs) (b := p * 8 + j) (j := i - j) (l - j) (by omega)
    have e2 := sk_shf_in (f := qr) (b := p * 8 + j) (j := i - j) (l - j) (by omega)
    rw [show p * 8 + j + (i - j) = p * 8 + i by omega] at e1 e2
    exact ⟨e1, e2⟩
end
end
section
/-- the frames of process q are left alone -/
def pv_fr (q : Nat) (fc fa fb fm fc1 fa1 fb1 fm1 : Nat → Int32) : Prop := ∀ i, i < 4 → fc1 (q * 4 + i) = fc (q * 4 + i) ∧ fa1 (q * 4 + i) = fa (q * 4 + i) ∧ fb1 (q * 4 + i) = fb (q * 4 + i) ∧ fm1 (q * 4 + i) = fm (q * 4 + i)
/-- what one step of process p may do -/
def pv_F (p nd m es L : Nat) (R T : Nat → Nat → Prop) (ls : Int32) (pc ra rb sp mk dp fc fa fb fm sl fl ek ep ev er : Nat → Int32) (nd1 es1 : Nat) (ls1 et1 : Int32) (co1 pc1 ra1 rb1 sp1 mk1 dp1 fc1 fa1 fb1 fm1 lf1 pg1 ss1 ql1 qs1 qr1 hd1 ek1 ep1 ev1 er1 : Nat → Int32) : Prop :=
  nd1 = nd ∧ ls1 = ls ∧ pv_X nd co1 dp1 ql1 qs1 hd1 ∧
  (∃ m1, et1 = nI m1 ∧ es1 = min m1 128 ∧ (m1 = m ∨ m1 = m + 1) ∧ (m1 ≤ 128 → pv_GA m1 L lf1 pg1 ss1 ql1 qs1 qr1 ek1 ep1 ev1 er1 R T)) ∧
  (∀ i, i < es → ek1 i = ek i ∧ ep1 i = ep i ∧ ev1 i = ev i ∧ er1 i = er i) ∧
  (∀ q, q < 4 → q ≠ p → dp1 q = dp q ∧ sp1 q = sp q ∧ pc1 q = pc q ∧ ra1 q = ra q ∧ rb1 q = rb q ∧ mk1 q = mk q ∧ pv_fr q fc fa fb fm fc1 fa1 fb1 fm1) ∧
  ((dp1 p = dp p ∧ sp1 p = sp p ∧ pv_fr p fc fa fb fm fc1 fa1 fb1 fm1) ∨
   (∃ d g, dp p = nI d ∧ d < nd ∧ dp1 p = nI (d + 1) ∧ sp1 p = sp p - 4 ∧ 1 ≤ g ∧ g < 32 ∧ fc1 (p * 4 + d) = sk_itC sl pc p (fl (p * 32 + g)) ∧ fa1 (p * 4 + d) = sk_itA sl ra p (fl (p * 32 + g)) ∧ fb1 (p * 4 + d) = rb p ∧ fm1 (p * 4 + d) = mk p ∧ (∀ i, i < 4 → i ≠ d → fc1 (p * 4 + i) = fc (p * 4 + i) ∧ fa1 (p * 4 + i) = fa (p * 4 + i) ∧ fb1 (p * 4 + i) = fb (p * 4 + i) ∧ fm1 (p * 4 + i) = fm (p * 4 + i)) ∧ (es < 128 → ek1 es = 1 ∧ ep1 es = nI p ∧ ev1 es = nI g) ∧ et1 = nI (m + 1)) ∨
   (∃ d, d + 1 ≤ 4 ∧ dp p = nI (d + 1) ∧ dp1 p = nI d ∧ sp1 p = sp p + 4 ∧ pc1 p = fc (p * 4 + d) ∧ ra1 p = fa (p * 4 + d) ∧ rb1 p = fb (p * 4 + d) ∧ mk1 p = fm (p * 4 + d) ∧ pv_fr p fc fa fb fm fc1 fa1 fb1 fm1))
theorem pv_d1 : pv_dl 1 := Or.inl rfl
theorem pv_d2 : pv_dl 2 := Or.inr (Or.inl rfl)
theorem pv_d3 : pv_dl 3 := Or.inr (Or.inr (Or.inl rfl))
theorem pv_d4 : pv_dl 4 := Or.inr (Or.inr (Or.inr rfl))
section
variable {nd es : Nat} {ls et : Int32} {co ca pc ra rb sp mk dp fc fa fb fm sl st lf su pg ss ql qs qr hd fl ek ep ev er : Nat → Int32}
variable {m L p : Nat} {R T : Nat → Nat → Prop}
theorem pv_fr_0 {q : Nat} : pv_fr q fc fa fb fm fc fa fb fm := fun _ _ => ⟨rfl, rfl, rfl, rfl⟩
theorem pv_lgA {f : Nat → Int32} {x : Int32} {i : Nat} (hi : i < es) : sk_lgA f es x i = f i := by
  unfold sk_lgA
  split
  · exact pk_un (by omega)
  · rfl
theorem pv_lgE {f : Nat → Int32} {x : Int32} (h : es < 128) : sk_lgA f es x es = x := by
  unfold sk_lgA
  rw [if_pos h]
  exact pk_us
theorem pv_M_log {lf1 pg1 ss1 ql1 qs1 qr1 : Nat → Int32} {k q v x : Int32} (hm : es = min m 128) (h : m < 128 → pv_GA (m + 1) L lf1 pg1 ss1 ql1 qs1 qr1 (upd ek m k) (upd ep m q) (upd ev m v) (upd er m x) R T) : ∃ m1, nI m + 1 = nI m1 ∧ sk_lgN es = min m1 128 ∧ (m1 = m ∨ m1 = m + 1) ∧ (m1 ≤ 128 → pv_GA m1 L lf1 pg1 ss1 ql1 qs1 qr1 (sk_lgA ek es k) (sk_lgA ep es q) (sk_lgA ev es v) (sk_lgA er es x) R T) := by
  refine ⟨m + 1, nI_1 m, ?_, Or.inr rfl, fun h1 => ?_⟩
  · unfold sk_lgN
    split <;> omega
  · have e : es = m := by omega
    have e2 : m < 128 := by omega
    rw [e]
    simp only [sk_lgA, if_pos e2]
    exact h e2
theorem pv_le {m : Nat} (hm : es = min m 128) : es ≤ 128 := by omega
theorem pv_reg {pc1 ra1 rb1 mk1 hd1 : Nat → Int32} (hx : pv_X nd co dp ql qs hd1) (hm : es = min m 128) (hG : m ≤ 128 → pv_GA m L lf pg ss ql qs qr ek ep ev er R T) (ho : ∀ q, q ≠ p → pc1 q = pc q ∧ ra1 q = ra q ∧ rb1 q = rb q ∧ mk1 q = mk q) : pv_F p nd m es L R T ls pc ra rb sp mk dp fc fa fb fm sl fl ek ep ev er nd es ls (nI m) co pc1 ra1 rb1 sp mk1 dp fc fa fb fm lf pg ss ql qs qr hd1 ek ep ev er :=
  ⟨rfl, rfl, hx, ⟨m, rfl, hm, Or.inl rfl, hG⟩, fun _ _ => ⟨rfl, rfl, rfl, rfl⟩, fun q _ hq => ⟨rfl, rfl, (ho q hq).1, (ho q hq).2.1, (ho q hq).2.2.1, (ho q hq).2.2.2, pv_fr_0⟩, Or.inl ⟨rfl, rfl, pv_fr_0⟩⟩
/-- one event is logged; registers, depth and frames stay -/
theorem pv_ev {k v x : Int32} {pc1 lf1 pg1 ss1 ql1 qs1 qr1 : Nat → Int32} {q : Int32} (hx : pv_X nd co dp ql1 qs1 hd) (hm : es = min m 128) (h : m < 128 → pv_GA (m + 1) L lf1 pg1 ss1 ql1 qs1 qr1 (upd ek m k) (upd ep m q) (upd ev m v) (upd er m x) R T) (ho : ∀ q, q ≠ p → pc1 q = pc q) : pv_F p nd m es L R T ls pc ra rb sp mk dp fc fa fb fm sl fl ek ep ev er nd (sk_lgN es) ls (nI m + 1) co pc1 ra rb sp mk dp fc fa fb fm lf1 pg1 ss1 ql1 qs1 qr1 hd (sk_lgA ek es k) (sk_lgA ep es q) (sk_lgA ev es v) (sk_lgA er es x) :=
  ⟨rfl, rfl, hx, pv_M_log hm h, fun i hi => ⟨pv_lgA hi, pv_lgA hi, pv_lgA hi, pv_lgA hi⟩, fun q _ hq => ⟨rfl, rfl, ho q hq, rfl, rfl, rfl, pv_fr_0⟩, Or.inl ⟨rfl, rfl, pv_fr_0⟩⟩
theorem pv_X_die (hx : pv_X nd co dp ql qs hd) : pv_X nd co dp (upd ql p 0) qs hd := ⟨hx.1, hx.2.1, hx.2.2.1, sk_QL_0 hx.2.2.2.1, hx.2.2.2.2⟩
theorem pv_act {post : St2 → Prop} {g : Nat} {s : Int32} (hp : p < 2) (h1 : 1 ≤ g) (hg : g < 32) (hx : pv_X nd co dp ql qs hd) (hm : es = min m 128)
    (hev : m < 128 → ∀ k v, pv_dl k → (v = nI g ∨ v = 11) → pv_GA (m + 1) L lf pg ss ql qs qr (upd ek m k) (upd ep m (nI p)) (upd ev m v) (upd er m s) R T)
    (K : ∀ {nd1 es1 : Nat} {ls1 et1 : Int32} {co1 ca1 pc1 ra1 rb1 sp1 mk1 dp1 fc1 fa1 fb1 fm1 sl1 st1 lf1 su1 pg1 ss1 ql1 qs1 qr1 hd1 fl1 ek1 ep1 ev1 er1 : Nat → Int32}, pv_F p nd m es L R T ls pc ra rb sp mk dp fc fa fb fm sl fl ek ep ev er nd1 es1 ls1 et1 co1 pc1 ra1 rb1 sp1 mk1 dp1 fc1 fa1 fb1 fm1 lf1 pg1 ss1 ql1 qs1 qr1 hd1 ek1 ep1 ev1 er1 → post (nI 2, nI nd1, ls1, et1, nI es1, co1, ca1, pc1, ra1, rb1, sp1, mk1, dp1, fc1, fa1, fb1, fm1, sl1, st1, lf1, su1, pg1, ss1, ql1, qs1, qr1, hd1, fl1, ek1, ep1, ev1, er1)) : wpX_act post (nI 2, nI nd, ls, nI m, nI es, co, ca, pc, ra, rb, sp, mk, dp, fc, fa, fb, fm, sl, st, lf, su, pg, ss, ql, qs, qr, hd, fl, ek, ep, ev, er) (nI p) (nI g) s := by
  have hs : es ≤ 128 := pv_le hm
  have hp4 : p < 4 := by omega
  have hnd := hx.1.2
  rcases hx.2.2.2.2 (p * 32 + g) with he | he | he
  · exact sx_act_m2 hp4 hg he hs (K (pv_ev hx hm (fun h => hev h 4 _ pv_d4 (Or.inl rfl)) fun _ _ => rfl))
  · by_cases g13 : g = 13
    · subst g13
      exact sx_act_13 hp4 he hs (K (pv_ev hx hm (fun h => hev h 4 _ pv_d4 (Or.inl rfl)) fun _ _ => rfl))
    by_cases g14 : g = 14
    · subst g14
      exact sx_act_14 hp4 he hs (K (pv_ev hx hm (fun h => hev h 4 _ pv_d4 (Or.inl rfl)) fun _ _ => rfl))
    by_cases g12 : g = 12
    · subst g12
      exact sx_act_12 hp4 he hs (K (pv_ev hx hm (fun h => hev h 3 _ pv_d3 (Or.inl rfl)) fun _ _ => rfl))
    by_cases g15 : g = 15
    · subst g15
      exact sx_act_15 hp4 he hs (K (pv_ev hx hm (fun h => hev h 3 _ pv_d3 (Or.inl rfl)) fun _ _ => rfl))
    exact sx_act_die hp4 hg g12 g13 g14 g15 he hs (K (pv_ev (pv_X_die hx) hm (fun h => pv_GA_die hp (Or.inr rfl) (hev h 2 _ pv_d2 (Or.inl rfl))) fun _ _ => rfl))
  · obtain ⟨d, hd4, e⟩ := hx.2.2.1 p hp4
    by_cases hdn : d < nd
    · refine sx_act_ent hp4 hg he e (by omega) hdn hs (K ⟨rfl, rfl, ⟨hx.1, hx.2.1, sk_DP_u hx.2.2.1 (by omega), hx.2.2.2.1, sk_HD_H hx.2.2.2.2⟩, pv_M_log hm (fun h => hev h 1 _ pv_d1 (Or.inl rfl)), fun i hi => ⟨pv_lgA hi, pv_lgA hi, pv_lgA hi, pv_lgA hi⟩, fun q hq4 hq => ?_, Or.inr (Or.inl ⟨d, g, e, hdn, pk_us, pk_us, h1, hg, pk_us, pk_us, pk_us, pk_us, fun i hi hid => ?_, fun hes => ⟨pv_lgE hes, pv_lgE hes, pv_lgE hes⟩, nI_1 m⟩)⟩)
      · refine ⟨pk_un hq, pk_un hq, pk_un hq, pk_un hq, pk_un hq, ?_, fun i hi => ⟨pk_un (by omega), pk_un (by omega), pk_un (by omega), pk_un (by omega)⟩⟩
        unfold sk_mkH
        split
        · exact pk_un hq
        · rfl
      · exact ⟨pk_un (by omega), pk_un (by omega), pk_un (by omega), pk_un (by omega)⟩
    · exact sx_act_over hp4 hg he e hd4 (by omega) hs (K (pv_ev (pv_X_die hx) hm (fun h => pv_GA_die hp (Or.inr rfl) (hev h 2 _ pv_d2 (Or.inr rfl))) fun _ _ => rfl))
theorem pv_deliver {post : Int32 → St2 → Prop} (hp : p < 2) (hL : L < 1000) (hx : pv_X nd co dp ql qs hd) (hm : es = min m 128) (hG : m ≤ 128 → pv_GA m L lf pg ss ql qs qr ek ep ev er R T)
    (K0 : post 0 (nI 2, nI nd, ls, nI m, nI es, co, ca, pc, ra, rb, sp, mk, dp, fc, fa, fb, fm, sl, st, lf, su, pg, ss, ql, qs, qr, hd, fl, ek, ep, ev, er)) (K : ∀ {nd1 es1 : Nat} {ls1 et1 : Int32} {co1 ca1 pc1 ra1 rb1 sp1 mk1 dp1 fc1 fa1 fb1 fm1 sl1 st1 lf1 su1 pg1 ss1 ql1 qs1 qr1 hd1 fl1 ek1 ep1 ev1 er1 : Nat → Int32}, pv_F p nd m es L R T ls pc ra rb sp mk dp fc fa fb fm sl fl ek ep ev er nd1 es1 ls1 et1 co1 pc1 ra1 rb1 sp1 mk1 dp1 fc1 fa1 fb1 fm1 lf1 pg1 ss1 ql1 qs1 qr1 hd1 ek1 ep1 ev1 er1 → post 1 (nI 2, nI nd1, ls1, et1, nI es1, co1, ca1, pc1, ra1, rb1, sp1, mk1, dp1, fc1, fa1, fb1, fm1, sl1, st1, lf1, su1, pg1, ss1, ql1, qs1, qr1, hd1, fl1, ek1, ep1, ev1, er1)) : wpX_deliver post (nI 2, nI nd, ls, nI m, nI es, co, ca, pc, ra, rb, sp, mk, dp, fc, fa, fb, fm, sl, st, lf, su, pg, ss, ql, qs, qr, hd, fl, ek, ep, ev, er) (nI p) := by
  have hp4 : p < 4 := by omega
  rcases sk_sel (fun i => ¬ (pg p &&& (mk p ^^^ (-1))) &&& ((1 : Int32) <<< (nI i &&& 31)) = 0) 1 16 with ⟨g, h1, hg, hn, hmin⟩ | hmin
  · have hb : bt (pg p) g = true := by
      rw [sk_and0 (by omega), b_and] at hn
      cases z : bt (pg p) g
      · rw [z] at hn; exact absurd rfl hn
      · rfl
    unfold wpX_deliver
    refine sx_low hp4 h1 hg hn (fun j a b => Classical.byContradiction fun z => hmin j a b z) ?_
    refine br_f (nI_ne0 h1 (by omega)) ⟨by rw [sk_ix16]; exact vp_in_nI (by omega) (by decide), nm_r (by rw [sk_ix16, nI_clamp (by omega)]) ?_⟩
    refine sx_drop hp4 hg ?_
    exact pv_act (R := R) (T := T) (L := L) hp h1 (by omega) hx hm (fun h k v hk _ => pv_GA_pend hp hL h1 hg hb hk (hG (by omega))) K
  · obtain ⟨l, hl, e, hq⟩ := hx.2.2.2.1 p hp4
    rcases sk_sel (fun j => mk p &&& ((1 : Int32) <<< (qs (p * 8 + j) &&& 31)) = 0) 0 l with ⟨j, _, hj, hxj, hm2⟩ | hm2
    · obtain ⟨g, h1, hg, hqs⟩ := hq j hj
      obtain ⟨l', rfl⟩ : ∃ l', l = l' + 1 := ⟨l - 1, by omega⟩
      unfold wpX_deliver
      refine sx_low0 hp4 (fun j a b => Classical.byContradiction fun z => hmin j a b z) ?_
      refine br_t rfl ?_
      unfold wpX_earliestDeliverable
      refine ⟨j + 1, sx_ear_l hp4 hl e hj hxj ?_ j 0 (by omega) (fun k a b => hm2 k a b)⟩
      refine br_t (nI_pos' (by omega)) (nm_r (sk_ix8 p j) ⟨vp_in_nI (by omega) (by decide), nm_r (e' := nI g) (by rw [nI_clamp (by omega)]; exact hqs) ⟨vp_in_nI (by omega) (by decide), nm_r (e' := qr (p * 8 + j)) (by rw [nI_clamp (by omega)]) ?_⟩⟩)
      refine sx_remove hp4 hl e (by omega) ?_
      have hne : ∀ i, i < j → qs (p * 8 + i) ≠ qs (p * 8 + j) := fun i hi z => hm2 i (by omega) hi (by rw [z]; exact hxj)
      exact pv_act (R := R) (T := T) (L := L) hp h1 hg ⟨hx.1, hx.2.1, hx.2.2.1, sk_QL_r hp4 hx.2.2.2.1 hl e (by omega), hx.2.2.2.2⟩ hm (fun h k v hk hv => pv_GA_rem hp hL hl e (by omega) hne hqs hv hk (hG (by omega))) K
    · unfold wpX_deliver
      refine sx_low0 hp4 (fun j a b => Classical.byContradiction fun z => hmin j a b z) ?_
      refine br_t rfl ?_
      unfold wpX_earliestDeliverable
      refine ⟨l + 1, sx_ear0_l hp4 hl e ?_ l 0 (by omega) (fun k a b => hm2 k a b)⟩
      exact br_f (by decide) K0
end
end
section
section
variable {nd es : Nat} {ls et : Int32} {co ca pc ra rb sp mk dp fc fa fb fm sl st lf su pg ss ql qs qr hd fl ek ep ev er : Nat → Int32}
variable {m L p : Nat} {R T : Nat → Nat → Prop}
theorem pv_exec {post : St2 → Prop} {c : Nat} (hp : p < 2) (hL : L < 1000) (hx : pv_X nd co dp ql qs hd) (hm : es = min m 128) (hG : m ≤ 128 → pv_GA m L lf pg ss ql qs qr ek ep ev er R T) (hc : c < 32) (ec : pc p = nI c) (hl : lf p = 0) (K : ∀ {nd1 es1 : Nat} {ls1 et1 : Int32} {co1 ca1 pc1 ra1 rb1 sp1 mk1 dp1 fc1 fa1 fb1 fm1 sl1 st1 lf1 su1 pg1 ss1 ql1 qs1 qr1 hd1 fl1 ek1 ep1 ev1 er1 : Nat → Int32}, pv_F p nd m es L R T ls pc ra rb sp mk dp fc fa fb fm sl fl ek ep ev er nd1 es1 ls1 et1 co1 pc1 ra1 rb1 sp1 mk1 dp1 fc1 fa1 fb1 fm1 lf1 pg1 ss1 ql1 qs1 qr1 hd1 ek1 ep1 ev1 er1 → post (nI 2, nI nd1, ls1, et1, nI es1, co1, ca1, pc1, ra1, rb1, sp1, mk1, dp1, fc1, fa1, fb1, fm1, sl1, st1, lf1, su1, pg1, ss1, ql1, qs1, qr1, hd1, fl1, ek1, ep1, ev1, er1)) : wpX_execute post (nI 2, nI nd, ls, nI m, nI es, co, ca, pc, ra, rb, sp, mk, dp, fc, fa, fb, fm, sl, st, lf, su, pg, ss, ql, qs, qr, hd, fl, ek, ep, ev, er) (nI p) := by
  have hs : es ≤ 128 := pv_le hm
  have hp4 : p < 4 := by omega
  have e1 : vp_in (nI p) 4 := vp_in_nI hp4 (by decide)
  have e2 : (nI p).toNatClampNeg = p := nI_clamp (by omega)
  by_cases o0 : co (p * 32 + c) = 0
  · exact sx_x0 hp4 hc ec o0 hs (K (pv_ev (pv_X_die hx) hm (fun h => pv_GA_nd (by decide) (pv_GA_die hp (Or.inl rfl) (hG (by omega)))) fun _ _ => rfl))
  by_cases o4 : co (p * 32 + c) = 4
  · exact sx_x4 hp4 hc ec o4 (K (pv_reg hx hm hG fun q hq => ⟨pk_un hq, rfl, rfl, rfl⟩))
  by_cases o5 : co (p * 32 + c) = 5
  · by_cases z : ra p = 0
    · exact sx_x5 hp4 hc ec o5 z (K (pv_reg hx hm hG fun q hq => ⟨pk_un hq, rfl, rfl, rfl⟩))
    · exact sx_x5b hp4 hc ec o5 z (K (pv_reg hx hm hG fun q hq => ⟨pk_un hq, rfl, rfl, rfl⟩))
  by_cases o9 : co (p * 32 + c) = 9
  · by_cases z : ca (p * 32 + c) ≤ 0
    · exact sx_x9b hp4 hc ec o9 z (K (pv_reg hx hm hG fun q hq => ⟨pk_un hq, pk_un hq, rfl, rfl⟩))
    · exact sx_x9 hp4 hc ec o9 z (K (pv_reg hx hm hG fun q hq => ⟨rfl, rfl, rfl, rfl⟩))
  by_cases o1 : co (p * 32 + c) = 1
  · exact sx_x1 hp4 hc ec o1 (K (pv_reg hx hm hG fun q hq => ⟨pk_un hq, pk_un hq, rfl, rfl⟩))
  by_cases o2 : co (p * 32 + c) = 2
  · exact sx_x2 hp4 hc ec o2 (K (pv_reg hx hm hG fun q hq => ⟨pk_un hq, rfl, pk_un hq, rfl⟩))
  by_cases o3 : co (p * 32 + c) = 3
  · exact sx_x3 hp4 hc ec o3 (K (pv_reg hx hm hG fun q hq => ⟨pk_un hq, pk_un hq, rfl, rfl⟩))
  have o6 : ¬ co (p * 32 + c) = 6 := hx.2.1 _
  by_cases o7 : co (p * 32 + c) = 7
  · by_cases k0 : ca (p * 32 + c) = 0
    · exact sx_x7a hp4 hc ec o7 k0 (K (pv_reg hx hm hG fun q hq => ⟨pk_un hq, pk_un hq, rfl, pk_un hq⟩))
    by_cases k1 : ca (p * 32 + c) = 1
    · exact sx_x7b hp4 hc ec o7 k1 (K (pv_reg hx hm hG fun q hq => ⟨pk_un hq, pk_un hq, rfl, pk_un hq⟩))
    by_cases k2 : ca (p * 32 + c) = 2
    · exact sx_x7c hp4 hc ec o7 k2 (K (pv_reg hx hm hG fun q hq => ⟨pk_un hq, pk_un hq, rfl, pk_un hq⟩))
    exact sx_x7d hp4 hc ec o7 k0 k1 k2 (K (pv_reg hx hm hG fun q hq => ⟨pk_un hq, pk_un hq, rfl, rfl⟩))
  by_cases o8 : co (p * 32 + c) = 8
  · have e3 : vp_in (nI (p * 32 + c)) 128 := vp_in_nI (by omega) (by decide)
    have e4 : (nI (p * 32 + c)).toNatClampNeg = p * 32 + c := nI_clamp (by omega)
    have e5 : nI p * 32 + pc (nI p).toNatClampNeg = nI (p * 32 + c) := by rw [e2, ec, sk_ix32]
    have ho' : co (nI (p * 32 + c)).toNatClampNeg = 8 := by rw [e4]; exact o8
    have hk' : ca (nI (p * 32 + c)).toNatClampNeg = ca (p * 32 + c) := by rw [e4]
    unfold wpX_execute
    refine ⟨e1, nm_r e5 ⟨e3, nm_r ho' ⟨e3, nm_r hk' (br_f (by decide) (br_f (by decide) (br_f (by decide) (br_f (by decide) (br_f (by decide) (br_f (by decide) (br_f (by decide) (br_f (by decide) (br_f (by decide) (br_f (by decide) (br_t rfl ⟨e1, e1, ?_⟩)))))))))))⟩⟩⟩
    rw [e2]
    rcases sk_cat (ca (p * 32 + c)) with hk | ⟨g, h1, hg, h9, h15, hk⟩
    · refine sx_setb0 (np := 2) hp (by decide) hl hk ?_
      simp only [e1, e2, true_implies, false_implies, not_true_eq_false, not_false_eq_true, and_true, true_and, forall_eq, implies_true]
      exact K (pv_reg hx hm hG fun q hq => ⟨pk_un hq, pk_un hq, rfl, rfl⟩)
    · rw [hk]
      rcases sk_hd (ra p) with hxx | ⟨n1, n2, hxx⟩
      · have hx' : ra p = -2 ∨ ra p = -1 ∨ 0 ≤ ra p := hxx.imp_right fun z => z.imp_right fun ⟨j, hj, e⟩ => by rw [e]; exact nI_pos' (by omega)
        refine sx_setb1 (np := 2) hp (by decide) hl h1 hg h9 h15 hxx ?_
        simp only [e1, e2, true_implies, false_implies, not_true_eq_false, not_false_eq_true, and_true, true_and, forall_eq, implies_true]
        exact K (pv_reg ⟨hx.1, hx.2.1, hx.2.2.1, hx.2.2.2.1, sk_HD_u hx.2.2.2.2 hx'⟩ hm hG fun q hq => ⟨pk_un hq, pk_un hq, rfl, rfl⟩)
      · refine sx_setb2 (np := 2) hp (by decide) hl h1 hg h9 h15 n1 n2 hxx ?_
        simp only [e1, e2, true_implies, false_implies, not_true_eq_false, not_false_eq_true, and_true, true_and, forall_eq, implies_true]
        exact K (pv_reg hx hm hG fun q hq => ⟨pk_un hq, pk_un hq, rfl, rfl⟩)
  by_cases o10 : co (p * 32 + c) = 10
  · obtain ⟨d', hd4, ed⟩ := hx.2.2.1 p hp4
    cases d' with
    | zero => exact sx_x10b hp4 hc ec o10 ed (K (pv_reg hx hm hG fun q hq => ⟨pk_un hq, pk_un hq, rfl, rfl⟩))
    | succ d =>
      exact sx_x10 hp4 hc ec o10 hd4 ed (K ⟨rfl, rfl, ⟨hx.1, hx.2.1, sk_DP_u hx.2.2.1 (by omega), hx.2.2.2.1, hx.2.2.2.2⟩, ⟨m, rfl, hm, Or.inl rfl, hG⟩, fun _ _ => ⟨rfl, rfl, rfl, rfl⟩, fun q _ hq => ⟨pk_un hq, pk_un hq, pk_un hq, pk_un hq, pk_un hq, pk_un hq, pv_fr_0⟩, Or.inr (Or.inr ⟨d, hd4, ed, pk_us, pk_us, pk_us, pk_us, pk_us, pk_us, pv_fr_0⟩)⟩)
  by_cases o11 : co (p * 32 + c) = 11
  · exact sx_x11 hp4 hc ec o11 hs (K (pv_ev hx hm (fun h => pv_GA_nd (by decide) (hG (by omega))) fun q hq => pk_un hq))
  by_cases o12 : co (p * 32 + c) = 12
  · exact sx_x12 hp4 hc ec o12 (K (pv_reg hx hm hG fun q hq => ⟨pk_un hq, rfl, pk_un hq, rfl⟩))
  by_cases o13 : co (p * 32 + c) = 13
  · obtain ⟨l, hl8, el, _⟩ := hx.2.2.2.1 p hp4
    exact sx_x13 hp4 hc ec o13 hl8 el (K (pv_reg hx hm hG fun q hq => ⟨pk_un hq, pk_un hq, rfl, rfl⟩))
  by_cases o14 : co (p * 32 + c) = 14
  · exact sx_x14 hp4 hc ec o14 (K (pv_reg hx hm hG fun q hq => ⟨pk_un hq, pk_un hq, pk_un hq, rfl⟩))
  exact sx_xN hp4 hc ec o0 o1 o2 o3 o4 o5 o6 o7 o8 o9 o10 o11 o12 o13 o14 (K (pv_reg hx hm hG fun q hq => ⟨pk_un hq, rfl, rfl, rfl⟩))
theorem pv_step {post : St2 → Prop} (hp : p < 2) (hL : L < 1000) (hx : pv_X nd co dp ql qs hd) (hm : es = min m 128) (hG : m ≤ 128 → pv_GA m L lf pg ss ql qs qr ek ep ev er R T) (hl : lf p = 0) (K : ∀ {nd1 es1 : Nat} {ls1 et1 : Int32} {co1 ca1 pc1 ra1 rb1 sp1 mk1 dp1 fc1 fa1 fb1 fm1 sl1 st1 lf1 su1 pg1 ss1 ql1 qs1 qr1 hd1 fl1 ek1 ep1 ev1 er1 : Nat → Int32}, pv_F p nd m es L R T ls pc ra rb sp mk dp fc fa fb fm sl fl ek ep ev er nd1 es1 ls1 et1 co1 pc1 ra1 rb1 sp1 mk1 dp1 fc1 fa1 fb1 fm1 lf1 pg1 ss1 ql1 qs1 qr1 hd1 ek1 ep1 ev1 er1 → post (nI 2, nI nd1, ls1, et1, nI es1, co1, ca1, pc1, ra1, rb1, sp1, mk1, dp1, fc1, fa1, fb1, fm1, sl1, st1, lf1, su1, pg1, ss1, ql1, qs1, qr1, hd1, fl1, ek1, ep1, ev1, er1)) : wpX_step post (nI 2, nI nd, ls, nI m, nI es, co, ca, pc, ra, rb, sp, mk, dp, fc, fa, fb, fm, sl, st, lf, su, pg, ss, ql, qs, qr, hd, fl, ek, ep, ev, er) (nI p) := by
  have hs : es ≤ 128 := pv_le hm
  have hp4 : p < 4 := by omega
  have e1 : vp_in (nI p) 4 := vp_in_nI hp4 (by decide)
  have e2 : (nI p).toNatClampNeg = p := nI_clamp (by omega)
  unfold wpX_step
  refine pv_deliver hp hL hx hm hG ?_ (fun f => br_f (by decide) (K f))
  refine br_t rfl ⟨e1, ?_⟩
  by_cases hsl : sl p ≤ 0
  · refine br_t (by rw [e2]; exact hsl) ⟨e1, ?_⟩
    rw [e2]
    rcases pk_ix (pc p) (n := 32) (by decide) with hc | hc | ⟨c, hc, ec⟩
    · refine sx_cell0 (Or.inl hc) ?_
      refine br_t rfl ?_
      refine sx_term hp4 hs ?_
      exact K (pv_ev (pv_X_die hx) hm (fun h => pv_GA_die hp (Or.inr rfl) (pv_GA_zero hp hL (hG (by omega)))) fun _ _ => rfl)
    · refine sx_cell0 (Or.inr hc) ?_
      refine br_t rfl ?_
      refine sx_term hp4 hs ?_
      exact K (pv_ev (pv_X_die hx) hm (fun h => pv_GA_die hp (Or.inr rfl) (pv_GA_zero hp hL (hG (by omega)))) fun _ _ => rfl)
    · rw [ec]
      refine sx_cell1 hc ?_
      refine br_f (by decide) ?_
      exact pv_exec hp hL hx hm hG hc ec hl (fun f => K f)
  · refine br_f (by rw [e2]; exact hsl) ?_
    by_cases z : sl p - 1 = 0
    · simp only [wpX_sleepOn, e1, e2, pk_us, z, true_implies, false_implies, not_true_eq_false, not_false_eq_true, and_true, true_and, forall_eq, implies_true]
      exact K (pv_reg hx hm hG fun q hq => ⟨pk_un hq, pk_un hq, rfl, rfl⟩)
    · simp only [wpX_sleepOn, e1, e2, pk_us, z, true_implies, false_implies, not_true_eq_false, not_false_eq_true, and_true, true_and, forall_eq, implies_true]
      exact K (pv_reg hx hm hG fun q hq => ⟨rfl, rfl, rfl, rfl⟩)
theorem pv_iter {post : Int32 → St2 → Prop} {J : Int32 → Int32 → Int32 → Int32 → Int32 → Int32 → Int32 → (Nat → Int32) → (Nat → Int32) → (Nat → Int32) → (Nat → Int32) → (Nat → Int32) → (Nat → Int32) → (Nat → Int32) → (Nat → Int32) → (Nat → Int32) → (Nat → Int32) → (Nat → Int32) → (Nat → Int32) → (Nat → Int32) → (Nat → Int32) → (Nat → Int32) → (Nat → Int32) → (Nat → Int32) → (Nat → Int32) → (Nat → Int32) → (Nat → Int32) → (Nat → Int32) → (Nat → Int32) → (Nat → Int32) → (Nat → Int32) → (Nat → Int32) → (Nat → Int32) → (Nat → Int32) → Prop} {x2 x4 c : Int32} {n : Nat} (hp : p < 2) (hL : L < 1000) (hx : pv_X nd co dp ql qs hd) (hm : es = min m 128) (hG : m ≤ 128 → pv_GA m L lf pg ss ql qs qr ek ep ev er R T) (K : ∀ (c' : Int32) {nd1 es1 : Nat} {ls1 et1 : Int32} {co1 ca1 pc1 ra1 rb1 sp1 mk1 dp1 fc1 fa1 fb1 fm1 sl1 st1 lf1 su1 pg1 ss1 ql1 qs1 qr1 hd1 fl1 ek1 ep1 ev1 er1 : Nat → Int32}, pv_F p nd m es L R T ls pc ra rb sp mk dp fc fa fb fm sl fl ek ep ev er nd1 es1 ls1 et1 co1 pc1 ra1 rb1 sp1 mk1 dp1 fc1 fa1 fb1 fm1 lf1 pg1 ss1 ql1 qs1 qr1 hd1 ek1 ep1 ev1 er1 → wX_run_22 post J x2 x4 n c' (nI (p + 1)) (nI 2) (nI nd1) ls1 et1 (nI es1) co1 ca1 pc1 ra1 rb1 sp1 mk1 dp1 fc1 fa1 fb1 fm1 sl1 st1 lf1 su1 pg1 ss1 ql1 qs1 qr1 hd1 fl1 ek1 ep1 ev1 er1) : wX_run_22 post J x2 x4 (n + 1) c (nI p) (nI 2) (nI nd) ls (nI m) (nI es) co ca pc ra rb sp mk dp fc fa fb fm sl st lf su pg ss ql qs qr hd fl ek ep ev er := by
  have hp4 : p < 4 := by omega
  have e1 : vp_in (nI p) 4 := vp_in_nI hp4 (by decide)
  have e2 : (nI p).toNatClampNeg = p := nI_clamp (by omega)
  have z : ¬ nI 2 ≤ nI p := nI_ge hp (by decide)
  rw [wX_run_22]
  refine br_f z ⟨e1, br_c (fun hl => ⟨e1, br_c (fun _ => ?_) fun _ => nm_r (nI_1 p) (K c (pv_reg hx hm hG fun q hq => ⟨rfl, rfl, rfl, rfl⟩))⟩) fun _ => nm_r (nI_1 p) (K c (pv_reg hx hm hG fun q hq => ⟨rfl, rfl, rfl, rfl⟩))⟩
  rw [e2] at hl
  exact pv_step hp hL hx hm hG hl (fun f => nm_e (nm_r (nI_1 p) (K _ f)))
end
section
variable {nd es : Nat} {ls et : Int32} {co ca pc ra rb sp mk dp fc fa fb fm sl st lf su pg ss ql qs qr hd fl ek ep ev er : Nat → Int32}
variable {m L : Nat} {R T : Nat → Nat → Prop}
theorem pv_run {post : Int32 → St2 → Prop} (hL : L < 1000) (hx : pv_X nd co dp ql qs hd) (hm : es = min m 128) (hG : m ≤ 128 → pv_GA m L lf pg ss ql qs qr ek ep ev er R T) (K : ∀ (r : Int32) {nd1 es1 : Nat} {ls1 et1 : Int32} {co1 ca1 pc1 ra1 rb1 sp1 mk1 dp1 fc1 fa1 fb1 fm1 sl1 st1 lf1 su1 pg1 ss1 ql1 qs1 qr1 hd1 fl1 ek1 ep1 ev1 er1 : Nat → Int32} {m1 : Nat} {nd2 es2 : Nat} {ls2 et2 : Int32} {co2 ca2 pc2 ra2 rb2 sp2 mk2 dp2 fc2 fa2 fb2 fm2 sl2 st2 lf2 su2 pg2 ss2 ql2 qs2 qr2 hd2 fl2 ek2 ep2 ev2 er2 : Nat → Int32}, et1 = nI m1 → es1 = min m1 128 → (m1 = m ∨ m1 = m + 1) → pv_F 0 nd m es L R T ls pc ra rb sp mk dp fc fa fb fm sl fl ek ep ev er nd1 es1 ls1 et1 co1 pc1 ra1 rb1 sp1 mk1 dp1 fc1 fa1 fb1 fm1 lf1 pg1 ss1 ql1 qs1 qr1 hd1 ek1 ep1 ev1 er1 → pv_F 1 nd1 m1 es1 L R T ls1 pc1 ra1 rb1 sp1 mk1 dp1 fc1 fa1 fb1 fm1 sl1 fl1 ek1 ep1 ev1 er1 nd2 es2 ls2 et2 co2 pc2 ra2 rb2 sp2 mk2 dp2 fc2 fa2 fb2 fm2 lf2 pg2 ss2 ql2 qs2 qr2 hd2 ek2 ep2 ev2 er2 → post r (nI 2, nI nd2, ls2, et2, nI es2, co2, ca2, pc2, ra2, rb2, sp2, mk2, dp2, fc2, fa2, fb2, fm2, sl2, st2, lf2, su2, pg2, ss2, ql2, qs2, qr2, hd2, fl2, ek2, ep2, ev2, er2)) : wpX_run post (nI 2, nI nd, ls, nI m, nI es, co, ca, pc, ra, rb, sp, mk, dp, fc, fa, fb, fm, sl, st, lf, su, pg, ss, ql, qs, qr, hd, fl, ek, ep, ev, er) 1 := by
  unfold wpX_run
  refine br_t (by decide) (br_t (by decide) ⟨2, ?_⟩)
  rw [wX_run_13]
  refine br_f (by decide) ⟨3, ?_⟩
  refine pv_iter (p := 0) (by decide) hL hx hm hG (fun c' => ?_)
  intro nd1 es1 ls1 et1 co1 ca1 pc1 ra1 rb1 sp1 mk1 dp1 fc1 fa1 fb1 fm1 sl1 st1 lf1 su1 pg1 ss1 ql1 qs1 qr1 hd1 fl1 ek1 ep1 ev1 er1 F1
  obtain ⟨rfl, f2, hx1, ⟨m1, rfl, hm1, f4, hG1⟩, f5⟩ := id F1
  refine pv_iter (p := 1) (by decide) hL hx1 hm1 hG1 (fun c'' => ?_)
  intro nd2 es2 ls2 et2 co2 ca2 pc2 ra2 rb2 sp2 mk2 dp2 fc2 fa2 fb2 fm2 sl2 st2 lf2 su2 pg2 ss2 ql2 qs2 qr2 hd2 fl2 ek2 ep2 ev2 er2 F2
  rw [wX_run_22]
  refine br_t (by decide) (nm_e ?_)
  rw [wX_run_13]
  refine br_t (by decide) ?_
  exact K _ (ca1 := ca1) (st1 := st1) (su1 := su1) rfl hm1 f4 F1 F2
end
end
section
/-- s joins the set of process p -/
def pv_add (R : Nat → Nat → Prop) (p s : Nat) : Nat → Nat → Prop := fun q t => R q t ∨ (q = p ∧ t = s)
theorem pv_add_s {R : Nat → Nat → Prop} {p s : Nat} : pv_add R p s p = fun t => R p t ∨ t = s := by
  funext t
  exact propext ⟨fun h => h.elim Or.inl (fun y => Or.inr y.2), fun h => h.elim Or.inl (fun y => Or.inr ⟨rfl, y⟩)⟩
theorem pv_add_n {R : Nat → Nat → Prop} {p q s : Nat} (h : q ≠ p) : pv_add R p s q = R q := by
  funext t
  exact propext ⟨fun y => y.elim id (fun z => absurd z.1 h), Or.inl⟩
section
variable {nd es : Nat} {ls et : Int32} {co ca pc ra rb sp mk dp fc fa fb fm sl st lf su pg ss ql qs qr hd fl ek ep ev er : Nat → Int32}
variable {n m L p : Nat} {R T : Nat → Nat → Prop}
theorem pv_AP_L {q : Nat} {R T : Nat → Prop} (h : pv_AP n L lf pg ss ql qs qr ek ep ev er R T q) : pv_AP n (L + 1) lf pg ss ql qs qr ek ep ev er R T q := by
  obtain ⟨l, e, hl, a⟩ := h
  exact ⟨l, e, hl, pv_A_L (Nat.le_succ L) a⟩
theorem pv_GA_mark {g : Nat} (hp : p < 2) (hL : L < 1000) (h1 : 1 ≤ g) (hg : g < 16) (h : pv_GA n L lf pg ss ql qs qr ek ep ev er R T) : pv_GA n (L + 1) lf (upd pg p (pg p ||| ((1 : Int32) <<< (nI g &&& 31)))) (upd ss (p * 16 + g) (nI (L + 1))) ql qs qr ek ep ev er R (pv_add T p (L + 1)) := by
  refine ⟨fun q hq => ?_, h.2⟩
  by_cases e : q = p
  · subst e
    rw [pv_add_s]
    obtain ⟨l, e, hl, a⟩ := h.1 q hq
    refine ⟨l, e, hl, ?_⟩
    rw [pk_us]
    refine pv_A_mark (g0 := g) hL (fun g' a' b' c' => ?_) pk_us a
    by_cases z : g' = g
    · exact Or.inl z
    · rw [b_or, sk_bit (by omega), decide_eq_false z, Bool.or_false] at c'
      exact Or.inr ⟨c', pk_un (by omega)⟩
  · rw [pv_add_n e]
    exact pv_AP_same (pv_sq_d hg e) (pv_AP_L (h.1 q hq))
theorem pv_GA_enq {g l : Nat} (hp : p < 2) (hL : L < 1000) (h1 : 16 ≤ g) (hg : g < 32) (hl : l < 8) (el : ql p = nI l) (h : pv_GA n L lf pg ss ql qs qr ek ep ev er R T) : pv_GA n (L + 1) lf pg ss (upd ql p (nI (l + 1))) (upd qs (p * 8 + l) (nI g)) (upd qr (p * 8 + l) (nI (L + 1))) ek ep ev er (pv_add R p (L + 1)) T := by
  refine ⟨fun q hq => ?_, h.2⟩
  by_cases e : q = p
  · subst e
    rw [pv_add_s]
    obtain ⟨l', e, hl', a⟩ := h.1 q hq
    have : l' = l := (nI_eq (by omega) (by omega)).mp (e.1.symm.trans el)
    subst this
    refine ⟨l' + 1, ⟨pk_us, e.2⟩, by omega, ?_⟩
    exact pv_A_enq (g0 := g) hL h1 hg (fun j hj => ⟨pk_un (by omega), pk_un (by omega)⟩) pk_us pk_us a
  · rw [pv_add_n e]
    refine pv_AP_same ⟨rfl, rfl, pk_un e, fun j hj => ⟨pk_un (by omega), pk_un (by omega)⟩, fun _ _ => rfl⟩ (pv_AP_L (h.1 q hq))
theorem pv_GA_newT (hp : p < 2) (hL : L < 1000) (h : pv_GA n L lf pg ss ql qs qr ek ep ev er R T) : pv_GA n (L + 1) lf pg ss ql qs qr ek ep ev er R (pv_add T p (L + 1)) := by
  refine ⟨fun q hq => ?_, h.2⟩
  by_cases e : q = p
  · subst e
    rw [pv_add_s]
    obtain ⟨l, e, hl, a⟩ := h.1 q hq
    exact ⟨l, e, hl, pv_A_newT hL a⟩
  · rw [pv_add_n e]
    exact pv_AP_L (h.1 q hq)
theorem pv_GA_kill {x : Int32} (hp : p < 2) (hL : L < 999) (h : pv_GA n L lf pg ss ql qs qr ek ep ev er R T) : pv_GA (n + 1) (L + 1) lf pg ss ql qs qr (upd ek n 2) (upd ep n (nI p)) (upd ev n x) (upd er n (nI (L + 1))) R (pv_add T p (L + 1)) := by
  refine pv_GA_ev hp (pv_GA_newT hp (by omega) h) ?_ fun q _ _ => ⟨rfl, rfl, rfl, fun _ _ => ⟨rfl, rfl⟩, fun _ _ => rfl⟩
  obtain ⟨l, e, hl, a⟩ := h.1 p hp
  rw [pv_add_s]
  refine ⟨l, e, hl, ?_⟩
  refine pv_A_evT (by omega) (Or.inr rfl) (pv_new (by omega) a) (fun g x1 x2 x3 z => ?_) pv_d2 (pv_A_newT (by omega) a)
  obtain ⟨s, d, t, _⟩ := a.2.2.1.1 g x1 x2 x3
  have := (a.1.2.1 s t).2
  have : s = L + 1 := (nI_eq (by omega) (by omega)).mp (d.symm.trans z)
  omega
/-- what send leaves behind -/
def pv_Sd (g m L p : Nat) (R T : Nat → Nat → Prop) (r : Int32) (nd es1 : Nat) (ls1 et1 : Int32) (co dp hd lf1 pg1 ss1 ql1 qs1 qr1 ek1 ep1 ev1 er1 : Nat → Int32) : Prop :=
  pv_X nd co dp ql1 qs1 hd ∧ ∃ m1, et1 = nI m1 ∧ es1 = min m1 128 ∧ (m1 = m ∨ m1 = m + 1) ∧
    ((r ≤ 0 ∧ ls1 = nI L ∧ (m1 ≤ 128 → pv_GA m1 L lf1 pg1 ss1 ql1 qs1 qr1 ek1 ep1 ev1 er1 R T)) ∨
     (r = nI (L + 1) ∧ ls1 = nI (L + 1) ∧ g < 16 ∧ (m1 ≤ 128 → pv_GA m1 (L + 1) lf1 pg1 ss1 ql1 qs1 qr1 ek1 ep1 ev1 er1 R (pv_add T p (L + 1)))) ∨
     (r = nI (L + 1) ∧ ls1 = nI (L + 1) ∧ 16 ≤ g ∧ (m1 ≤ 128 → pv_GA m1 (L + 1) lf1 pg1 ss1 ql1 qs1 qr1 ek1 ep1 ev1 er1 (pv_add R p (L + 1)) T)))
theorem pv_121 {post : Int32 → St2 → Prop} {g : Nat} {z r : Int32} (hx : pv_X nd co dp ql qs hd) (hm : es = min m 128)
    (hc : (r ≤ 0 ∧ ls = nI L ∧ (m ≤ 128 → pv_GA m L lf pg ss ql qs qr ek ep ev er R T)) ∨ (r = nI (L + 1) ∧ ls = nI (L + 1) ∧ g < 16 ∧ (m ≤ 128 → pv_GA m (L + 1) lf pg ss ql qs qr ek ep ev er R (pv_add T p (L + 1)))) ∨ (r = nI (L + 1) ∧ ls = nI (L + 1) ∧ 16 ≤ g ∧ (m ≤ 128 → pv_GA m (L + 1) lf pg ss ql qs qr ek ep ev er (pv_add R p (L + 1)) T)))
    (K : ∀ {es1 : Nat} {ls1 et1 : Int32} {ek1 ep1 ev1 er1 : Nat → Int32}, pv_Sd g m L p R T r nd es1 ls1 et1 co dp hd lf pg ss ql qs qr ek1 ep1 ev1 er1 → post r (nI 2, nI nd, ls1, et1, nI es1, co, ca, pc, ra, rb, sp, mk, dp, fc, fa, fb, fm, sl, st, lf, su, pg, ss, ql, qs, qr, hd, fl, ek1, ep1, ev1, er1)) : wX_send_121 post (nI p) z r (nI 2) (nI nd) ls (nI m) (nI es) co ca pc ra rb sp mk dp fc fa fb fm sl st lf su pg ss ql qs qr hd fl ek ep ev er := by
  unfold wX_send_121
  refine br_c (fun _ => K ⟨hx, m, rfl, hm, Or.inl rfl, hc⟩) fun _ => ?_
  refine sx_log (pv_le hm) ?_
  refine K ⟨hx, m + 1, nI_1 m, ?_, Or.inr rfl, ?_⟩
  · unfold sk_lgN
    split <;> omega
  · have key : ∀ (L' : Nat) (R' T' : Nat → Nat → Prop), (m ≤ 128 → pv_GA m L' lf pg ss ql qs qr ek ep ev er R' T') → (m + 1 ≤ 128 → pv_GA (m + 1) L' lf pg ss ql qs qr (sk_lgA ek es 5) (sk_lgA ep es (nI p)) (sk_lgA ev es 14) (sk_lgA er es r) R' T') := fun L' R' T' h h1 => by
      have e : es = m := by omega
      have e2 : m < 128 := by omega
      rw [e]
      simp only [sk_lgA, if_pos e2]
      exact pv_GA_nd (by decide) (h (by omega))
    rcases hc with ⟨a, b, c⟩ | ⟨a, b, c, d⟩ | ⟨a, b, c, d⟩
    · exact Or.inl ⟨a, b, key _ _ _ c⟩
    · exact Or.inr (Or.inl ⟨a, b, c, key _ _ _ d⟩)
    · exact Or.inr (Or.inr ⟨a, b, c, key _ _ _ d⟩)
theorem pv_100 {post : Int32 → St2 → Prop} {g : Nat} {z : Int32} (hp : p < 2) (hL : L < 999) (h1 : 1 ≤ g) (hg : g < 32) (hq : g < 16 ∨ ∃ l, l < 8 ∧ ql p = nI l) (hx : pv_X nd co dp ql qs hd) (hm : es = min m 128) (hG : m ≤ 128 → pv_GA m L lf pg ss ql qs qr ek ep ev er R T)
    (K : ∀ {es1 : Nat} {r ls1 et1 : Int32} {pg1 ss1 ql1 qs1 qr1 ek1 ep1 ev1 er1 : Nat → Int32}, pv_Sd g m L p R T r nd es1 ls1 et1 co dp hd lf pg1 ss1 ql1 qs1 qr1 ek1 ep1 ev1 er1 → post r (nI 2, nI nd, ls1, et1, nI es1, co, ca, pc, ra, rb, sp, mk, dp, fc, fa, fb, fm, sl, st, lf, su, pg1, ss1, ql1, qs1, qr1, hd, fl, ek1, ep1, ev1, er1)) : wX_send_100 post (nI p) (nI g) z (nI 2) (nI nd) (nI L) (nI m) (nI es) co ca pc ra rb sp mk dp fc fa fb fm sl st lf su pg ss ql qs qr hd fl ek ep ev er := by
  have hp4 : p < 4 := by omega
  unfold wX_send_100
  by_cases g16 : g < 16
  · refine br_t (nI_lt (b := 16) g16 (by decide)) ?_
    by_cases y : pg p &&& ((1 : Int32) <<< (nI g &&& 31)) = 0
    · refine sx_mark1 hp4 g16 y ?_
      rw [nI_1 L]
      exact pv_121 (R := R) (T := T) hx hm (Or.inr (Or.inl ⟨rfl, rfl, g16, fun h => pv_GA_mark hp (by omega) h1 g16 (hG h)⟩)) K
    · refine sx_mark0 hp4 y ?_
      exact pv_121 (R := R) (T := T) hx hm (Or.inl ⟨by decide, rfl, hG⟩) K
  · refine br_f (nI_nlt (b := 16) (by omega) (by omega)) ?_
    obtain ⟨l, hl, e⟩ := hq.resolve_left g16
    refine sx_enq hp4 hl e ?_
    rw [nI_1 L]
    exact pv_121 (R := R) (T := T) ⟨hx.1, hx.2.1, hx.2.2.1, sk_QL_a hp4 hx.2.2.2.1 hl e h1 hg, hx.2.2.2.2⟩ hm (Or.inr (Or.inr ⟨rfl, rfl, by omega, fun h => pv_GA_enq hp (by omega) (by omega) hg hl e (hG h)⟩)) K
theorem pv_send {post : Int32 → St2 → Prop} {g : Nat} (hp : p < 2) (hL : L < 999) (h1 : 1 ≤ g) (hg : g < 32) (hx : pv_X nd co dp ql qs hd) (hm : es = min m 128) (hG : m ≤ 128 → pv_GA m L lf pg ss ql qs qr ek ep ev er R T)
    (K : ∀ {es1 : Nat} {r ls1 et1 : Int32} {sl1 st1 lf1 su1 pg1 ss1 ql1 qs1 qr1 ek1 ep1 ev1 er1 : Nat → Int32}, pv_Sd g m L p R T r nd es1 ls1 et1 co dp hd lf1 pg1 ss1 ql1 qs1 qr1 ek1 ep1 ev1 er1 → post r (nI 2, nI nd, ls1, et1, nI es1, co, ca, pc, ra, rb, sp, mk, dp, fc, fa, fb, fm, sl1, st1, lf1, su1, pg1, ss1, ql1, qs1, qr1, hd, fl, ek1, ep1, ev1, er1)) : wpX_send post (nI 2, nI nd, nI L, nI m, nI es, co, ca, pc, ra, rb, sp, mk, dp, fc, fa, fb, fm, sl, st, lf, su, pg, ss, ql, qs, qr, hd, fl, ek, ep, ev, er) (nI p) (nI g) := by
  have hp4 : p < 4 := by omega
  have e1 : vp_in (nI p) 4 := vp_in_nI hp4 (by decide)
  have e2 : (nI p).toNatClampNeg = p := nI_clamp (by omega)
  have K0 : ∀ r : Int32, r ≤ 0 → post r (nI 2, nI nd, nI L, nI m, nI es, co, ca, pc, ra, rb, sp, mk, dp, fc, fa, fb, fm, sl, st, lf, su, pg, ss, ql, qs, qr, hd, fl, ek, ep, ev, er) := fun r hr => K ⟨hx, m, rfl, hm, Or.inl rfl, Or.inl ⟨hr, rfl, hG⟩⟩
  unfold wpX_send
  refine sx_sig1 h1 hg ?_
  refine br_f (by decide) ?_
  by_cases hl : lf p = 0
  · refine sx_al1 (np := 2) hp (by decide) hl ?_
    refine br_f (by decide) ?_
    obtain ⟨l, hl8, el, _⟩ := hx.2.2.2.1 p hp4
    have main : (g < 16 ∨ ∃ l, l < 8 ∧ ql p = nI l) → wX_send_41 post (nI p) (nI g) (nI 2) (nI nd) (nI L) (nI m) (nI es) co ca pc ra rb sp mk dp fc fa fb fm sl st lf su pg ss ql qs qr hd fl ek ep ev er := fun hq => by
      unfold wX_send_41
      by_cases g9 : g = 9
      · subst g9
        refine br_t rfl ?_
        refine sx_serial ?_
        refine sx_term hp4 (pv_le hm) ?_
        refine K ⟨pv_X_die hx, ?_⟩
        rw [nI_1 L]
        obtain ⟨m1, a, b, c, d⟩ := pv_M_log (L := L + 1) (R := R) (T := pv_add T p (L + 1)) (k := 2) (q := nI p) (v := 9) (x := nI (L + 1)) hm (fun h => pv_GA_die (x := 4) hp (Or.inr rfl) (pv_GA_kill (x := 9) hp hL (hG (by omega))))
        exact ⟨m1, a, b, c, Or.inr (Or.inl ⟨rfl, rfl, by decide, d⟩)⟩
      refine br_f (pv_ne (by omega) (by decide) g9) ?_
      by_cases g12 : g = 12
      · subst g12
        refine sx_opp12 hp4 ?_
        refine br_f (by decide) ?_
        unfold wX_send_87 wX_send_88
        exact br_t rfl (pv_100 (R := R) (T := T) hp hL h1 hg hq hx hm (fun h => pv_GA_drop (s := 14) hp (by decide) (hG h)) (fun f => K f))
      by_cases g15 : g = 15
      · subst g15
        refine sx_opp15 hp4 ?_
        refine br_f (by decide) ?_
        unfold wX_send_87 wX_send_88
        exact br_t rfl (pv_100 (R := R) (T := T) hp hL h1 hg hq hx hm (fun h => pv_GA_drop (s := 14) hp (by decide) (hG h)) (fun f => K f))
      by_cases g14 : g = 14
      · subst g14
        refine sx_opp14 hp4 ?_
        refine br_t rfl ⟨e1, br_c (fun _ => ?_) fun _ => ?_⟩
        · unfold wX_send_87 wX_send_88
          exact br_t rfl (pv_100 (R := R) (T := T) hp hL h1 hg hq hx hm (fun h => pv_GA_drop (s := 15) hp (by decide) (pv_GA_drop (s := 12) hp (by decide) (hG h))) (fun f => K f))
        · unfold wX_send_88
          exact br_f (by decide) ⟨e1, nm_e (pv_100 (R := R) (T := T) hp hL h1 hg hq hx hm (fun h => pv_GA_drop (s := 15) hp (by decide) (pv_GA_drop (s := 12) hp (by decide) (hG h))) (fun f => K f))⟩
      refine sx_oppN hg g12 g14 g15 ?_
      refine br_f (pv_ne (by omega) (by decide) g14) ?_
      unfold wX_send_87 wX_send_88
      exact br_t rfl (pv_100 (R := R) (T := T) hp hL h1 hg hq hx hm hG (fun f => K f))
    refine br_c (fun z => main (Or.inl ((nI_ltI (b := 16) (by omega) (by decide)).mp z))) fun _ => ⟨e1, br_c (fun z => ?_) fun _ => K0 _ (by decide)⟩
    rw [e2, el] at z
    exact main (Or.inr ⟨l, (nI_ltI (b := 8) (by omega) (by decide)).mp z, el⟩)
  · refine sx_al2 (np := 2) hp (by decide) hl ?_
    exact br_t rfl (K0 _ (by decide))
end
end
section
theorem ts_nf {x : Bool} (h : ¬ x = false) : x = true := by cases x <;> first | rfl | exact absurd rfl h
theorem ts_nt {x : Bool} (h : ¬ x = true) : x = false := by cases x <;> first | rfl | exact absurd rfl h
theorem ts_bit {w : Int64} {s : UInt64} {j : Nat} (hj : j < 64) (hs : s.toNat = j) : ((w.toUInt64 >>> s).toInt64 &&& 1) = 0 ↔ w.toBitVec.getLsbD j = false := by
  have e : (w.toUInt64 >>> s).toInt64.toBitVec = w.toBitVec >>> j := by
    apply BitVec.eq_of_toNat_eq
    show (w.toUInt64 >>> s).toNat = _
    rw [UInt64.toNat_shiftRight, hs, Nat.mod_eq_of_lt hj, BitVec.toNat_ushiftRight]
    rfl
  rw [← Int64.toBitVec_inj, Int64.toBitVec_and, e]
  show w.toBitVec >>> j &&& 1#64 = 0#64 ↔ _
  constructor
  · intro h
    have t := congrArg (fun x => x.getLsbD 0) h
    simpa using t
  · intro h
    apply BitVec.eq_of_getLsbD_eq
    intro i hi
    cases i with
    | zero => simp [h]
    | succ i => simp
theorem ts_or {w m : Int64} {j : Nat} (hj : j < 64) (hm : m.toBitVec = BitVec.twoPow 64 j) : (w ||| m) = w ↔ w.toBitVec.getLsbD j = true := by
  rw [← Int64.toBitVec_inj, Int64.toBitVec_or, hm]
  constructor
  · intro h
    have t := congrArg (fun x => x.getLsbD j) h
    simp only [BitVec.getLsbD_or, BitVec.getLsbD_twoPow] at t
    simpa [hj] using t.symm
  · intro h
    apply BitVec.eq_of_getLsbD_eq
    intro i hi
    rw [BitVec.getLsbD_or, BitVec.getLsbD_twoPow]
    by_cases e : j = i
    · subst e; rw [h, Bool.true_or]
    · simp [e]
theorem ts_and {w m : Int64} {j : Nat} (hj : j < 64) (hm : m.toBitVec = BitVec.twoPow 64 j) : (w &&& (m ^^^ (-1))) = w ↔ w.toBitVec.getLsbD j = false := by
  have ha : (-1 : Int64).toBitVec = BitVec.allOnes 64 := by decide
  rw [← Int64.toBitVec_inj, Int64.toBitVec_and, Int64.toBitVec_xor, hm, ha]
  constructor
  · intro h
    have t := congrArg (fun x => x.getLsbD j) h
    simp only [BitVec.getLsbD_and, BitVec.getLsbD_xor, BitVec.getLsbD_twoPow, BitVec.getLsbD_allOnes] at t
    simpa [hj] using t.symm
  · intro h
    apply BitVec.eq_of_getLsbD_eq
    intro i hi
    rw [BitVec.getLsbD_and, BitVec.getLsbD_xor, BitVec.getLsbD_twoPow, BitVec.getLsbD_allOnes]
    by_cases e : j = i
    · subst e; rw [h, Bool.false_and]
    · simp [e, hi]
theorem wb_tb (n : Nat) : (lN n).toBitVec = BitVec.ofNat 64 n := rfl
theorem wb_inj {a b : Int64} (h : a.toBitVec = b.toBitVec) : a = b := Int64.toBitVec_inj.mp h
theorem wb_cu : ∀ k, k < 64 → ((nI k).toInt64.toUInt64 &&& Int64.toUInt64 63) = UInt64.ofNat k := by decide +kernel
theorem u_tn {n : Nat} (h : n < 2 ^ 64) : (UInt64.ofNat n).toNat = n := Nat.mod_eq_of_lt h
theorem nf_sl : ∀ l, l < 32 → (((nI l).toUInt32 &&& Int32.toUInt32 31).toBitVec % 32).toNat = l := by decide +kernel
theorem nf_bit (m : Int32) (l : Nat) (hl : l < 32) : ((m.toUInt32 >>> ((nI l).toUInt32 &&& Int32.toUInt32 31)).toInt32 &&& 1) = 0 ↔ (m &&& ((1 : Int32) <<< (nI l &&& 31))) = 0 := by
  have e : ((m.toUInt32 >>> ((nI l).toUInt32 &&& Int32.toUInt32 31)).toInt32).toBitVec = m.toBitVec >>> l := by
    show m.toBitVec >>> (((nI l).toUInt32 &&& Int32.toUInt32 31).toBitVec % 32) = m.toBitVec >>> l
    rw [BitVec.ushiftRight_eq', nf_sl l hl]
  rw [← Int32.toBitVec_inj, ← Int32.toBitVec_inj, Int32.toBitVec_and, Int32.toBitVec_and, nf_sh l hl, e, BitVec.and_twoPow]
  show (m.toBitVec >>> l &&& 1#32) = 0#32 ↔ _ = 0#32
  rw [BitVec.and_one_eq_setWidth_ofBool_getLsbD, BitVec.getLsbD_ushiftRight, Nat.add_zero]
  cases hb : m.toBitVec.getLsbD l
  · exact ⟨fun _ => by simp, fun _ => by decide⟩
  · exact ⟨fun z => absurd z (by decide), fun z => absurd ((if_pos rfl).symm.trans z) (nf_tp l hl)⟩
/-- serial s is in the set x -/
def pv_B (x : Int64) (s : Nat) : Prop := x.toBitVec.getLsbD s = true
theorem pv_B_0 (s : Nat) : ¬ pv_B 0 s := by
  unfold pv_B
  show ¬ (0#64).getLsbD s = true
  simp
theorem pv_B_lt {x : Int64} {s : Nat} (h : pv_B x s) : s < 64 := by
  rcases Nat.lt_or_ge s 64 with z | z
  · exact z
  · unfold pv_B at h
    rw [BitVec.getLsbD_of_ge _ _ z] at h
    exact absurd h (by decide)
theorem pv_B_or (x y : Int64) (s : Nat) : pv_B (x ||| y) s ↔ pv_B x s ∨ pv_B y s := by
  unfold pv_B
  rw [Int64.toBitVec_or, BitVec.getLsbD_or, Bool.or_eq_true]
theorem pv_sh : ∀ r, r < 64 → ((1 : Int64) <<< ((nI r).toInt64 &&& 63)).toBitVec = BitVec.twoPow 64 r := by decide +kernel
theorem pv_B_sh {r : Nat} (hr : r < 64) (s : Nat) : pv_B ((1 : Int64) <<< ((nI r).toInt64 &&& 63)) s ↔ s = r := by
  unfold pv_B
  rw [pv_sh r hr, BitVec.getLsbD_twoPow, decide_eq_true hr, Bool.true_and, decide_eq_true_eq]
  exact ⟨Eq.symm, Eq.symm⟩
theorem pv_has {post : Int32 → Prop} {x : Int64} {s : Nat} (hs : s < 64) (h1 : 1 ≤ s → pv_B x s → post 1) (h0 : (s = 0 ∨ ¬ pv_B x s) → post 0) : wpL_has post () x (nI s) := by
  by_cases z : s = 0
  · subst z
    exact br_t (by decide) (h0 (Or.inl rfl))
  · have hb : ((x.toUInt64 >>> ((nI s).toInt64.toUInt64 &&& Int64.toUInt64 63)).toInt64 &&& 1) = 0 ↔ x.toBitVec.getLsbD s = false := by
      rw [wb_cu s hs]
      exact ts_bit hs (u_tn (by omega))
    refine br_f (nI_nle (by omega) (by omega)) (br_f (nI_ge (b := 64) hs (by decide)) (br_c (fun y => h0 (Or.inr fun y' => ?_)) fun y => h1 (by omega) ?_))
    · have := hb.mp y
      unfold pv_B at y'
      rw [this] at y'
      exact absurd y' (by decide)
    · exact ts_nf fun y' => y (hb.mpr y')
theorem sx_del {post : Int32 → Prop} {k : Int32} (h1 : pv_dl k → post 1) (h0 : ¬ pv_dl k → post 0) : wpL_isDel post () k :=
  br_c (fun z => h1 (Or.inl z)) fun n1 => br_c (fun z => h1 (Or.inr (Or.inl z))) fun n2 => br_c (fun z => h1 (Or.inr (Or.inr (Or.inl z)))) fun n3 => br_c (fun z => h1 (Or.inr (Or.inr (Or.inr z)))) fun n4 => h0 fun y => y.elim n1 fun y => y.elim n2 fun y => y.elim n3 n4
/-- how many of the n places from b on hold serial s -/
def pv_cq (f : Nat → Int32) (b s : Nat) : Nat → Nat
  | 0 => 0
  | n + 1 => pv_cq f b s n + (if f (b + n) = nI s then 1 else 0)
theorem pv_cq_0 {f : Nat → Int32} {b s : Nat} : ∀ n, (∀ j, j < n → ¬ f (b + j) = nI s) → pv_cq f b s n = 0 := by
  intro n
  induction n with
  | zero => intro _; rfl
  | succ n ih =>
    intro h
    simp only [pv_cq, if_neg (h n (by omega)), ih fun j hj => h j (by omega)]
theorem pv_cq_1 {f : Nat → Int32} {b s j0 : Nat} : ∀ n, j0 < n → f (b + j0) = nI s → (∀ j, j < n → j ≠ j0 → ¬ f (b + j) = nI s) → pv_cq f b s n = 1 := by
  intro n
  induction n with
  | zero => intro h; omega
  | succ n ih =>
    intro hj e h
    by_cases z : j0 = n
    · subst z
      simp only [pv_cq, if_pos e, pv_cq_0 j0 fun j hj' => h j (by omega) (by omega)]
    · simp only [pv_cq, if_neg (h n (by omega) (fun y => z y.symm)), ih (by omega) e fun j hj' hn => h j (by omega) hn]
section
variable {nd es : Nat} {ls et : Int32} {co ca pc ra rb sp mk dp fc fa fb fm sl st lf su pg ss ql qs qr hd fl ek ep ev er : Nat → Int32}
variable {m L : Nat}
theorem sx_lt {post : Int32 → Prop} (h : post et) : wpX_logTotal post (nI 2, nI nd, ls, et, nI es, co, ca, pc, ra, rb, sp, mk, dp, fc, fa, fb, fm, sl, st, lf, su, pg, ss, ql, qs, qr, hd, fl, ek, ep, ev, er) := h
theorem sx_lf0 {post : Int32 → Prop} {i : Nat} (hi : i < es) (hs : es ≤ 128) (h : post (ek i)) : wpX_logField post (nI 2, nI nd, ls, et, nI es, co, ca, pc, ra, rb, sp, mk, dp, fc, fa, fb, fm, sl, st, lf, su, pg, ss, ql, qs, qr, hd, fl, ek, ep, ev, er) (nI i) 0 := by
  unfold wpX_logField
  exact br_f (nI_pos (by omega)) (br_t (nI_lt hi (by omega)) (br_f (by decide) (br_f (by decide) (br_t rfl ⟨vp_in_nI (by omega) (by decide), by rw [nI_clamp (by omega)]; exact h⟩))))
theorem sx_lf1 {post : Int32 → Prop} {i : Nat} (hi : i < es) (hs : es ≤ 128) (h : post (ep i)) : wpX_logField post (nI 2, nI nd, ls, et, nI es, co, ca, pc, ra, rb, sp, mk, dp, fc, fa, fb, fm, sl, st, lf, su, pg, ss, ql, qs, qr, hd, fl, ek, ep, ev, er) (nI i) 1 := by
  unfold wpX_logField
  exact br_f (nI_pos (by omega)) (br_t (nI_lt hi (by omega)) (br_f (by decide) (br_f (by decide) (br_f (by decide) (br_t rfl ⟨vp_in_nI (by omega) (by decide), by rw [nI_clamp (by omega)]; exact h⟩)))))
theorem sx_lf2 {post : Int32 → Prop} {i : Nat} (hi : i < es) (hs : es ≤ 128) (h : post (ev i)) : wpX_logField post (nI 2, nI nd, ls, et, nI es, co, ca, pc, ra, rb, sp, mk, dp, fc, fa, fb, fm, sl, st, lf, su, pg, ss, ql, qs, qr, hd, fl, ek, ep, ev, er) (nI i) 2 := by
  unfold wpX_logField
  exact br_f (nI_pos (by omega)) (br_t (nI_lt hi (by omega)) (br_f (by decide) (br_f (by decide) (br_f (by decide) (br_f (by decide) (br_t rfl ⟨vp_in_nI (by omega) (by decide), by rw [nI_clamp (by omega)]; exact h⟩))))))
theorem sx_lf3 {post : Int32 → Prop} {i : Nat} (hi : i < es) (hs : es ≤ 128) (h : post (er i)) : wpX_logField post (nI 2, nI nd, ls, et, nI es, co, ca, pc, ra, rb, sp, mk, dp, fc, fa, fb, fm, sl, st, lf, su, pg, ss, ql, qs, qr, hd, fl, ek, ep, ev, er) (nI i) 3 := by
  unfold wpX_logField
  exact br_f (nI_pos (by omega)) (br_t (nI_lt hi (by omega)) (br_f (by decide) (br_f (by decide) (br_f (by decide) (br_f (by decide) (br_f (by decide) (br_t rfl ⟨vp_in_nI (by omega) (by decide), by rw [nI_clamp (by omega)]; exact h⟩)))))))
theorem sx_reg0 {post : Int32 → Prop} {p : Nat} (hp : p < 2) (h : post (pc p)) : wpX_reg post (nI 2, nI nd, ls, et, nI es, co, ca, pc, ra, rb, sp, mk, dp, fc, fa, fb, fm, sl, st, lf, su, pg, ss, ql, qs, qr, hd, fl, ek, ep, ev, er) (nI p) 0 := by
  unfold wpX_reg
  refine sx_pid1 (np := 2) hp (by decide) ?_
  exact br_f (by decide) (br_f (by decide) (br_f (by decide) (br_t rfl ⟨vp_in_nI (by omega) (by decide), by rw [nI_clamp (by omega)]; exact h⟩)))
theorem sx_reg1 {post : Int32 → Prop} {p : Nat} (hp : p < 2) (h : post (ra p)) : wpX_reg post (nI 2, nI nd, ls, et, nI es, co, ca, pc, ra, rb, sp, mk, dp, fc, fa, fb, fm, sl, st, lf, su, pg, ss, ql, qs, qr, hd, fl, ek, ep, ev, er) (nI p) 1 := by
  unfold wpX_reg
  refine sx_pid1 (np := 2) hp (by decide) ?_
  exact br_f (by decide) (br_f (by decide) (br_f (by decide) (br_f (by decide) (br_t rfl ⟨vp_in_nI (by omega) (by decide), by rw [nI_clamp (by omega)]; exact h⟩))))
theorem sx_reg2 {post : Int32 → Prop} {p : Nat} (hp : p < 2) (h : post (rb p)) : wpX_reg post (nI 2, nI nd, ls, et, nI es, co, ca, pc, ra, rb, sp, mk, dp, fc, fa, fb, fm, sl, st, lf, su, pg, ss, ql, qs, qr, hd, fl, ek, ep, ev, er) (nI p) 2 := by
  unfold wpX_reg
  refine sx_pid1 (np := 2) hp (by decide) ?_
  exact br_f (by decide) (br_f (by decide) (br_f (by decide) (br_f (by decide) (br_f (by decide) (br_t rfl ⟨vp_in_nI (by omega) (by decide), by rw [nI_clamp (by omega)]; exact h⟩)))))
theorem sx_reg3 {post : Int32 → Prop} {p : Nat} (hp : p < 2) (h : post (sp p)) : wpX_reg post (nI 2, nI nd, ls, et, nI es, co, ca, pc, ra, rb, sp, mk, dp, fc, fa, fb, fm, sl, st, lf, su, pg, ss, ql, qs, qr, hd, fl, ek, ep, ev, er) (nI p) 3 := by
  unfold wpX_reg
  refine sx_pid1 (np := 2) hp (by decide) ?_
  exact br_f (by decide) (br_f (by decide) (br_f (by decide) (br_f (by decide) (br_f (by decide) (br_f (by decide) (br_t rfl ⟨vp_in_nI (by omega) (by decide), by rw [nI_clamp (by omega)]; exact h⟩))))))
theorem sx_reg4 {post : Int32 → Prop} {p : Nat} (hp : p < 2) (h : post (mk p)) : wpX_reg post (nI 2, nI nd, ls, et, nI es, co, ca, pc, ra, rb, sp, mk, dp, fc, fa, fb, fm, sl, st, lf, su, pg, ss, ql, qs, qr, hd, fl, ek, ep, ev, er) (nI p) 4 := by
  unfold wpX_reg
  refine sx_pid1 (np := 2) hp (by decide) ?_
  exact br_f (by decide) (br_f (by decide) (br_f (by decide) (br_f (by decide) (br_f (by decide) (br_f (by decide) (br_f (by decide) (br_t rfl ⟨vp_in_nI (by omega) (by decide), by rw [nI_clamp (by omega)]; exact h⟩)))))))
theorem sx_reg5 {post : Int32 → Prop} {p : Nat} (hp : p < 2) (h : post (dp p)) : wpX_reg post (nI 2, nI nd, ls, et, nI es, co, ca, pc, ra, rb, sp, mk, dp, fc, fa, fb, fm, sl, st, lf, su, pg, ss, ql, qs, qr, hd, fl, ek, ep, ev, er) (nI p) 5 := by
  unfold wpX_reg
  refine sx_pid1 (np := 2) hp (by decide) ?_
  exact br_f (by decide) (br_f (by decide) (br_f (by decide) (br_f (by decide) (br_f (by decide) (br_f (by decide) (br_f (by decide) (br_f (by decide) (br_t rfl ⟨vp_in_nI (by omega) (by decide), by rw [nI_clamp (by omega)]; exact h⟩))))))))
theorem sx_reg6 {post : Int32 → Prop} {p : Nat} (hp : p < 2) (h : post (sl p)) : wpX_reg post (nI 2, nI nd, ls, et, nI es, co, ca, pc, ra, rb, sp, mk, dp, fc, fa, fb, fm, sl, st, lf, su, pg, ss, ql, qs, qr, hd, fl, ek, ep, ev, er) (nI p) 6 := by
  unfold wpX_reg
  refine sx_pid1 (np := 2) hp (by decide) ?_
  exact br_f (by decide) (br_f (by decide) (br_f (by decide) (br_f (by decide) (br_f (by decide) (br_f (by decide) (br_f (by decide) (br_f (by decide) (br_f (by decide) (br_t rfl ⟨vp_in_nI (by omega) (by decide), by rw [nI_clamp (by omega)]; exact h⟩)))))))))
theorem sx_reg9 {post : Int32 → Prop} {p : Nat} (hp : p < 2) (h : post (ql p)) : wpX_reg post (nI 2, nI nd, ls, et, nI es, co, ca, pc, ra, rb, sp, mk, dp, fc, fa, fb, fm, sl, st, lf, su, pg, ss, ql, qs, qr, hd, fl, ek, ep, ev, er) (nI p) 9 := by
  unfold wpX_reg
  refine sx_pid1 (np := 2) hp (by decide) ?_
  exact br_f (by decide) (br_f (by decide) (br_f (by decide) (br_f (by decide) (br_f (by decide) (br_f (by decide) (br_f (by decide) (br_f (by decide) (br_f (by decide) (br_f (by decide) (br_f (by decide) (br_f (by decide) (br_t rfl ⟨vp_in_nI (by omega) (by decide), by rw [nI_clamp (by omega)]; exact h⟩))))))))))))
theorem sx_stored {post : Int32 → Prop} (hm : m ≤ 128) (h : post (nI m)) : wpL_stored post (nI 2, nI nd, ls, nI m, nI es, co, ca, pc, ra, rb, sp, mk, dp, fc, fa, fb, fm, sl, st, lf, su, pg, ss, ql, qs, qr, hd, fl, ek, ep, ev, er) := by
  unfold wpL_stored
  refine sx_lt ?_
  exact br_t (nI_le (b := 128) hm (by decide)) (br_t (nI_pos' (by omega)) h)
theorem sx_qd {post : Int32 → Prop} {p l i : Nat} (hp : p < 2) (hl : l ≤ 8) (e : ql p = nI l) (hi : i < l) (h : post (qr (p * 8 + i))) : wpX_queued post (nI 2, nI nd, ls, et, nI es, co, ca, pc, ra, rb, sp, mk, dp, fc, fa, fb, fm, sl, st, lf, su, pg, ss, ql, qs, qr, hd, fl, ek, ep, ev, er) (nI p) (nI i) 1 := by
  unfold wpX_queued
  refine sx_pid1 (np := 2) hp (by decide) ?_
  refine br_f (by decide) (br_f (nI_pos (by omega)) ⟨vp_in_nI (by omega) (by decide), br_t ?_ (nm_r (sk_ix8 p i) (br_f (by decide) (br_t rfl ⟨vp_in_nI (by omega) (by decide), ?_⟩)))⟩)
  · rw [nI_clamp (by omega), e]; exact nI_lt hi (by omega)
  · rw [nI_clamp (by omega)]; exact h
theorem pv_ce_l {post : Int32 → Prop} {p s : Nat} (hs : es ≤ 128) (h : post (nI (pv_cnt ek ep er p s es))) : ∀ d i, i + d = es → wL_countEv_11 post (nI p) (nI s) (nI es) (nI 2) (nI nd) ls et (nI es) co ca pc ra rb sp mk dp fc fa fb fm sl st lf su pg ss ql qs qr hd fl ek ep ev er (d + 1) (nI (pv_cnt ek ep er p s i)) (nI i) := by
  intro d
  induction d with
  | zero =>
    intro i hi
    have hi' : i = es := by omega
    subst hi'
    rw [wL_countEv_11]
    exact br_t (nI_le (Nat.le_refl _) (by omega)) h
  | succ d ih =>
    intro i hi
    have hh := ih (i + 1) (by omega)
    have no : ¬ pv_D ek ep er p s i → wL_countEv_11 post (nI p) (nI s) (nI es) (nI 2) (nI nd) ls et (nI es) co ca pc ra rb sp mk dp fc fa fb fm sl st lf su pg ss ql qs qr hd fl ek ep ev er (d + 1) (nI (pv_cnt ek ep er p s i)) (nI (i + 1)) := fun z => by
      simp only [pv_cnt, if_neg z, Nat.add_zero] at hh
      exact hh
    rw [wL_countEv_11]
    refine br_f (nI_ge (by omega) (by omega)) ?_
    refine sx_lf0 (by omega) hs ?_
    refine sx_del (fun z1 => ?_) fun z1 => ?_
    · refine br_f (by decide) ?_
      refine sx_lf1 (by omega) hs ?_
      refine br_c (fun z2 => ?_) fun z2 => nm_r (nI_1 i) (no fun y => z2 y.2.1)
      refine sx_lf3 (by omega) hs ?_
      refine br_c (fun z3 => ?_) fun z3 => nm_r (nI_1 i) (no fun y => z3 y.2.2)
      have z : pv_D ek ep er p s i := ⟨z1, z2, z3⟩
      simp only [pv_cnt, if_pos z] at hh
      exact nm_r (nI_1 _) (nm_r (nI_1 i) hh)
    · exact br_t rfl (nm_r (nI_1 i) (no fun y => z1 y.1))
theorem pv_ce {post : Int32 → Prop} {p s : Nat} (hm : m ≤ 128) (h : post (nI (pv_cnt ek ep er p s m))) : wpL_countEv post (nI 2, nI nd, ls, nI m, nI m, co, ca, pc, ra, rb, sp, mk, dp, fc, fa, fb, fm, sl, st, lf, su, pg, ss, ql, qs, qr, hd, fl, ek, ep, ev, er) (nI p) (nI s) := by
  unfold wpL_countEv
  refine sx_stored hm ?_
  exact ⟨m + 1, pv_ce_l hm h m 0 (by omega)⟩
theorem pv_cq_l {post : Int32 → Prop} {p s l : Nat} (hp : p < 2) (hl : l ≤ 8) (e : ql p = nI l) (h : post (nI (pv_cq qr (p * 8) s l))) : ∀ d i, i + d = l → wL_countQ_23 post (nI p) (nI s) (nI l) (nI 2) (nI nd) ls et (nI es) co ca pc ra rb sp mk dp fc fa fb fm sl st lf su pg ss ql qs qr hd fl ek ep ev er (d + 1) (nI (pv_cq qr (p * 8) s i)) (nI i) := by
  intro d
  induction d with
  | zero =>
    intro i hi
    have hi' : i = l := by omega
    subst hi'
    rw [wL_countQ_23]
    exact br_t (nI_le (Nat.le_refl _) (by omega)) h
  | succ d ih =>
    intro i hi
    have hh := ih (i + 1) (by omega)
    rw [wL_countQ_23]
    refine br_f (nI_ge (by omega) (by omega)) ?_
    refine sx_qd hp hl e (by omega) ?_
    refine br_c (fun z => ?_) fun z => ?_
    · simp only [pv_cq, if_pos z] at hh
      exact nm_r (nI_1 _) (nm_r (nI_1 i) hh)
    · simp only [pv_cq, if_neg z, Nat.add_zero] at hh
      exact nm_r (nI_1 i) hh
theorem pv_cqt {post : Int32 → Prop} {p s l : Nat} (hp : p < 2) (hl : l ≤ 8) (e : ql p = nI l) (h : post (nI (pv_cq qr (p * 8) s l))) : wpL_countQ post (nI 2, nI nd, ls, et, nI es, co, ca, pc, ra, rb, sp, mk, dp, fc, fa, fb, fm, sl, st, lf, su, pg, ss, ql, qs, qr, hd, fl, ek, ep, ev, er) (nI p) (nI s) := by
  unfold wpL_countQ
  refine sx_reg9 hp ?_
  rw [e]
  exact br_t (nI_le (b := 64) (by omega) (by decide)) ⟨l + 1, pv_cq_l hp hl e h l 0 (by omega)⟩
theorem pv_102 {post : Int32 → Prop} {J : Int32 → Prop} {p v l : Nat} {rt st' : Int64} {x7 : Int32} {al : Prop} {gq sq sp' : Nat → Int32} {w : Int32} {R : Nat → Prop} (hm : m ≤ 128) (hv : v < 64) (a : pv_A m L al l gq sq w sp' ek ep ev er R (pv_B st') p) (h : J (nI (v + 1))) : wL_serialsOk_102 post J (nI p) rt st' x7 (nI v) (nI 2) (nI nd) ls (nI m) (nI m) co ca pc ra rb sp mk dp fc fa fb fm sl st lf su pg ss ql qs qr hd fl ek ep ev er := by
  unfold wL_serialsOk_102
  refine pv_has hv (fun _ hb => ?_) fun _ => br_t rfl (nm_r (nI_1 v) h)
  refine br_f (by decide) ?_
  refine pv_ce hm ?_
  exact br_t (nI_le (b := 1) (a.2.2.2.1.1 v (Or.inr hb)) (by decide)) (nm_r (nI_1 v) h)
theorem pv_so_l {post : Int32 → Prop} {p l : Nat} {rt st' : Int64} {x7 : Int32} {gq : Nat → Int32} {sp' : Nat → Int32} {w : Int32} (hp : p < 2) (hm : m ≤ 128) (hL : L ≤ 63) (hl : l ≤ 8) (e : ql p = nI l) (a : pv_A m L (lf p = 0) l gq (fun j => qr (p * 8 + j)) w sp' ek ep ev er (pv_B rt) (pv_B st') p) (h7 : ¬ lf p = 0 → ¬ x7 = 0) (h : post 1) : ∀ d v, v + d = 64 → wL_serialsOk_29 post (nI p) rt st' x7 (nI 2) (nI nd) ls (nI m) (nI m) co ca pc ra rb sp mk dp fc fa fb fm sl st lf su pg ss ql qs qr hd fl ek ep ev er (d + 1) (nI v) := by
  intro d
  induction d with
  | zero =>
    intro v hv
    have hv' : v = 64 := by omega
    subst hv'
    rw [wL_serialsOk_29]
    exact br_t (by decide) h
  | succ d ih =>
    intro v hv
    have hh := ih (v + 1) (by omega)
    have next := pv_102 (post := post) (co := co) (ca := ca) (pc := pc) (ra := ra) (rb := rb) (sp := sp) (mk := mk) (dp := dp) (fc := fc) (fa := fa) (fb := fb) (fm := fm) (sl := sl) (st := st) (lf := lf) (su := su) (pg := pg) (ss := ss) (ql := ql) (qs := qs) (qr := qr) (hd := hd) (fl := fl) (nd := nd) (ls := ls) (rt := rt) (x7 := x7) hm (by omega : v < 64) a hh
    rw [wL_serialsOk_29]
    refine br_f (nI_ge (b := 64) (by omega) (by decide)) ?_
    refine pv_has (by omega) (fun _ hb => ?_) fun _ => br_t rfl next
    refine br_f (by decide) ?_
    refine pv_cqt hp hl e ?_
    refine pv_ce hm ?_
    have hvL := (a.1.1 v hb).2
    by_cases z : ∃ j, j < l ∧ qr (p * 8 + j) = nI v
    · obtain ⟨j0, hj0, e0⟩ := z
      have q1 : pv_cq qr (p * 8) v l = 1 := pv_cq_1 l hj0 e0 fun j hj hn y => by
        rcases Nat.lt_or_gt_of_ne hn with t | t
        · exact absurd (a.2.1.2 j j0 v v t hj0 y e0 hb hb) (Nat.lt_irrefl _)
        · exact absurd (a.2.1.2 j0 j v v t hj e0 y hb hb) (Nat.lt_irrefl _)
      have q2 : pv_cnt ek ep er p v m = 0 := by
        obtain ⟨g, s, _, _, _, d', r, c⟩ := a.2.1.1 j0 hj0
        have := (a.1.1 s r).2
        have : s = v := (nI_eq (by omega) (by omega)).mp (d'.symm.trans e0)
        exact this ▸ c
      rw [q1, q2]
      exact br_t rfl (br_t rfl next)
    · have q1 : pv_cq qr (p * 8) v l = 0 := pv_cq_0 l fun j hj y => z ⟨j, hj, y⟩
      have c1 := a.2.2.2.1.1 v (Or.inl hb)
      dsimp only at c1
      rw [q1]
      refine br_f (by decide) ?_
      unfold wL_serialsOk_74
      refine br_t rfl ?_
      by_cases y : pv_cnt ek ep er p v m = 0
      · rw [y]
        refine br_f (by decide) ?_
        unfold wL_serialsOk_85
        refine br_t rfl (br_t rfl (br_f (h7 fun al => z (a.2.2.2.1.2 al v hb y)) next))
      · have : pv_cnt ek ep er p v m = 1 := by omega
        rw [this]
        exact br_t rfl next
theorem pv_so {post : Int32 → Prop} {p : Nat} {rt st' : Int64} (hp : p < 2) (hm : m ≤ 128) (hL : L ≤ 63) (a : pv_AP m L lf pg ss ql qs qr ek ep ev er (pv_B rt) (pv_B st') p) (h : post 1) : wpL_serialsOk post (nI 2, nI nd, ls, nI m, nI m, co, ca, pc, ra, rb, sp, mk, dp, fc, fa, fb, fm, sl, st, lf, su, pg, ss, ql, qs, qr, hd, fl, ek, ep, ev, er) (nI p) rt st' := by
  have hp4 : p < 4 := by omega
  have e1 : vp_in (nI p) 4 := vp_in_nI hp4 (by decide)
  have e2 : (nI p).toNatClampNeg = p := nI_clamp (by omega)
  obtain ⟨l, ⟨e, elf⟩, hl, a⟩ := a
  have H : ∀ x7 : Int32, (¬ lf p = 0 → ¬ x7 = 0) → ∃ fu29, wL_serialsOk_29 post (nI p) rt st' x7 (nI 2) (nI nd) ls (nI m) (nI m) co ca pc ra rb sp mk dp fc fa fb fm sl st lf su pg ss ql qs qr hd fl ek ep ev er fu29 1 := fun x7 h7 => ⟨64, pv_so_l hp hm hL hl e a h7 h 63 1 (by omega)⟩
  unfold wpL_serialsOk wpX_state
  refine sx_pid1 (np := 2) hp (by decide) ?_
  refine br_f (by decide) ⟨e1, br_c (fun z => ⟨e1, ?_⟩) fun z => ⟨e1, ?_⟩⟩
  · rw [e2] at z
    have h7 : ∀ x7 : Int32, ¬ lf p = 0 → ¬ x7 = 0 := fun _ y => absurd z y
    refine br_c (fun _ => ⟨e1, br_c (fun _ => ?_) fun _ => ?_⟩) fun _ => ?_
    · exact br_f (by decide) (br_f (by decide) (H 0 (h7 0)))
    · exact br_f (by decide) (br_f (by decide) (H 0 (h7 0)))
    · exact br_f (by decide) (br_f (by decide) (H 0 (h7 0)))
  · rw [e2] at z
    rw [e2]
    rcases elf with y | y | y
    · exact absurd y z
    · exact br_t y (H 1 fun _ => by decide)
    · exact br_f (by rw [y]; decide) (br_t y (H 1 fun _ => by decide))
end
end
section
section
variable {nd es : Nat} {ls et : Int32} {co ca pc ra rb sp mk dp fc fa fb fm sl st lf su pg ss ql qs qr hd fl ek ep ev er : Nat → Int32}
variable {m L : Nat}
theorem pv_lo2 {post J9 : Int32 → Prop} {x1 x3 x5 x7 rt : Int64} {T : Nat → Prop} {p i v a l : Nat} {gq sq : Nat → Int32} (hm : m ≤ 128) (hL : L ≤ 63) (hv1 : 16 ≤ v) (hv2 : v < 32) (ei : pv_E ek ep ev er p i v a) (ra' : pv_B rt a) (hS : pv_S L (pv_B rt) T) (hO : pv_O m l gq sq ek ep ev er (pv_B rt) p) (hGp : pv_G m ek ep ev er (pv_B rt) T p) (h : J9 (nI (i + 1))) : ∀ d j, j + d = m → i < j → wL_logOk_170 post J9 x1 x3 x5 x7 (nI m) (nI i) (nI p) (nI v) (nI a) rt (nI 2) (nI nd) ls (nI m) (nI m) co ca pc ra rb sp mk dp fc fa fb fm sl st lf su pg ss ql qs qr hd fl ek ep ev er (d + 1) (nI j) := by
  intro d
  induction d with
  | zero =>
    intro j hj _
    have hj' : j = m := by omega
    subst hj'
    rw [wL_logOk_170]
    exact br_t (nI_le (Nat.le_refl _) (by omega)) (nm_r (nI_1 i) h)
  | succ d ih =>
    intro j hj hij
    have hh := ih (j + 1) (by omega) (by omega)
    rw [wL_logOk_170]
    refine br_f (nI_ge (by omega) (by omega)) ?_
    refine sx_lf0 (by omega) hm ?_
    refine sx_del (fun z1 => ?_) fun _ => br_t rfl (nm_r (nI_1 j) hh)
    refine br_f (by decide) ?_
    refine sx_lf1 (by omega) hm ?_
    refine br_c (fun z2 => ?_) fun _ => nm_r (nI_1 j) hh
    refine sx_lf2 (by omega) hm ?_
    refine br_c (fun z3 => ?_) fun _ => nm_r (nI_1 j) hh
    refine sx_lf3 (by omega) hm ?_
    have hb : ∃ b, b < 64 ∧ er j = nI b := by
      rcases hGp j (by omega) z1 z2 with ⟨z, _, _⟩ | ⟨s, e, rt'⟩
      · exact ⟨0, by decide, z.trans nI_0.symm⟩
      · refine ⟨s, ?_, e⟩
        rcases rt' with r | r
        · have := (hS.1 s r).2; omega
        · have := (hS.2.1 s r).2; omega
    obtain ⟨b, hb64, eb⟩ := hb
    rw [eb]
    refine pv_has hb64 (fun _ rb' => ?_) fun _ => br_t rfl (nm_r (nI_1 j) hh)
    refine br_f (by decide) ?_
    refine sx_lf3 (by omega) hm ?_
    rw [eb]
    have hab := hO.1 i j v a b hij (by omega) hv1 hv2 ei ⟨z1, z2, z3, eb⟩ ra' rb'
    exact br_t (nI_lt hab (by omega)) (nm_r (nI_1 j) hh)
theorem pv_lo100 {post J9 : Int32 → Prop} {x1 x3 x5 x7 rt st' : Int64} {p i l : Nat} {gq sq : Nat → Int32} (hm : m ≤ 128) (hL : L ≤ 63) (hi : i < m) (hd1 : pv_dl (ek i)) (hd2 : ep i = nI p) (hS : pv_S L (pv_B rt) (pv_B st')) (hO : pv_O m l gq sq ek ep ev er (pv_B rt) p) (hGp : pv_G m ek ep ev er (pv_B rt) (pv_B st') p) (h : J9 (nI (i + 1))) : wL_logOk_100 post J9 x1 x3 x5 x7 (nI m) (nI i) (ek i) (nI p) (ev i) (er i) rt st' (nI 2) (nI nd) ls (nI m) (nI m) co ca pc ra rb sp mk dp fc fa fb fm sl st lf su pg ss ql qs qr hd fl ek ep ev er := by
  unfold wL_logOk_100
  rcases hGp i hi hd1 hd2 with ⟨z, y2, y3⟩ | ⟨s, e, rt'⟩
  · exact br_t z (br_t y2 (br_t y3 (nm_r (nI_1 i) h)))
  · have hs : 1 ≤ s ∧ s ≤ L := rt'.elim (hS.1 s) (hS.2.1 s)
    rw [e]
    refine br_f (nI_ne0 hs.1 (by omega)) ?_
    refine pv_has (by omega) (fun _ _ => ?_) fun z => ?_
    · refine br_f (by decide) (br_c (fun _ => nm_r (nI_1 i) h) fun z16 => br_c (fun _ => nm_r (nI_1 i) h) fun z31 => ?_)
      refine pv_has (by omega) (fun _ ra' => ?_) fun _ => br_t rfl (nm_r (nI_1 i) h)
      refine br_f (by decide) (nm_r (nI_1 i) ?_)
      have hv : ∃ v, 16 ≤ v ∧ v < 32 ∧ ev i = nI v := by
        rcases pk_ix (ev i) (n := 32) (by decide) with y | y | ⟨v, y, ey⟩
        · exact absurd (Int32.lt_trans y (by decide)) z16
        · exact absurd (Int32.lt_of_lt_of_le (by decide) y) z31
        · refine ⟨v, ?_, y, ey⟩
          rw [ey] at z16
          have := z16
          rcases Nat.lt_or_ge v 16 with t | t
          · exact absurd (nI_lt (b := 16) t (by decide)) z16
          · exact t
      obtain ⟨v, hv1, hv2, ev'⟩ := hv
      rw [ev']
      exact ⟨m - (i + 1) + 1, pv_lo2 hm hL hv1 hv2 ⟨hd1, hd2, ev', e⟩ ra' hS hO hGp h (m - (i + 1)) (i + 1) (by omega) (by omega)⟩
    · exfalso
      rcases z with z | z
      · omega
      · exact z ((pv_B_or rt st' s).mpr rt')
theorem pv_lo1 {post : Int32 → Prop} {rt0 st0 rt1 st1 : Int64} (hm : m ≤ 128) (hL : L ≤ 63) (a0 : pv_AP m L lf pg ss ql qs qr ek ep ev er (pv_B rt0) (pv_B st0) 0) (a1 : pv_AP m L lf pg ss ql qs qr ek ep ev er (pv_B rt1) (pv_B st1) 1) (hpid : ∀ i, i < m → pv_dl (ek i) → ep i = nI 0 ∨ ep i = nI 1) (h : post 1) : ∀ d i, i + d = m → wL_logOk_9 post rt0 st0 rt1 st1 (nI m) (nI 2) (nI nd) ls (nI m) (nI m) co ca pc ra rb sp mk dp fc fa fb fm sl st lf su pg ss ql qs qr hd fl ek ep ev er (d + 1) (nI i) := by
  obtain ⟨l0, _, _, s0, _, _, _, o0, g0⟩ := a0
  obtain ⟨l1, _, _, s1, _, _, _, o1, g1⟩ := a1
  intro d
  induction d with
  | zero =>
    intro i hi
    have hi' : i = m := by omega
    subst hi'
    rw [wL_logOk_9]
    exact br_t (nI_le (Nat.le_refl _) (by omega)) h
  | succ d ih =>
    intro i hi
    have hh := ih (i + 1) (by omega)
    rw [wL_logOk_9]
    refine br_f (nI_ge (by omega) (by omega)) ?_
    refine sx_lf0 (by omega) hm ?_
    refine sx_del (fun z1 => ?_) fun _ => br_t rfl (nm_r (nI_1 i) hh)
    refine br_f (by decide) ?_
    refine sx_lf1 (by omega) hm ?_
    refine sx_lf2 (by omega) hm ?_
    refine sx_lf3 (by omega) hm ?_
    rcases hpid i (by omega) z1 with z | z
    · have z' : ep i = 0 := z
      refine br_t z' ?_
      unfold wL_logOk_76
      refine br_t z' ?_
      unfold wL_logOk_87
      refine br_t z' ?_
      rw [z]
      exact pv_lo100 hm hL (by omega) z1 z s0 o0 g0 hh
    · have z' : ep i = 1 := z
      have n0 : ¬ ep i = 0 := by rw [z']; decide
      refine br_f n0 (br_t z' ?_)
      unfold wL_logOk_76
      refine br_f n0 ?_
      unfold wL_logOk_87
      refine br_f n0 ?_
      rw [z]
      exact pv_lo100 hm hL (by omega) z1 z s1 o1 g1 hh
theorem pv_lo {post : Int32 → Prop} {rt0 st0 rt1 st1 : Int64} (hm : m ≤ 128) (hL : L ≤ 63) (a0 : pv_AP m L lf pg ss ql qs qr ek ep ev er (pv_B rt0) (pv_B st0) 0) (a1 : pv_AP m L lf pg ss ql qs qr ek ep ev er (pv_B rt1) (pv_B st1) 1) (hpid : ∀ i, i < m → pv_dl (ek i) → ep i = nI 0 ∨ ep i = nI 1) (h : post 1) : wpL_logOk post (nI 2, nI nd, ls, nI m, nI m, co, ca, pc, ra, rb, sp, mk, dp, fc, fa, fb, fm, sl, st, lf, su, pg, ss, ql, qs, qr, hd, fl, ek, ep, ev, er) rt0 st0 rt1 st1 := by
  unfold wpL_logOk
  refine sx_stored hm ?_
  exact ⟨m + 1, pv_lo1 hm hL a0 a1 hpid h m 0 (by omega)⟩
end
end
section
/-- the two processes' sets -/
def pv_R (a b : Int64) : Nat → Nat → Prop := fun q => if q = 0 then pv_B a else if q = 1 then pv_B b else fun _ => False
theorem pv_R_add0 {a b : Int64} {r : Nat} (hr : r < 64) : pv_R (a ||| ((1 : Int64) <<< ((nI r).toInt64 &&& 63))) b = pv_add (pv_R a b) 0 r := by
  funext q
  by_cases e : q = 0
  · subst e
    rw [pv_add_s]
    funext t
    show pv_B _ t = (pv_B a t ∨ t = r)
    exact propext ((pv_B_or _ _ t).trans (or_congr Iff.rfl (pv_B_sh hr t)))
  · rw [pv_add_n e]
    simp only [pv_R, if_neg e]
theorem pv_R_add1 {a b : Int64} {r : Nat} (hr : r < 64) : pv_R a (b ||| ((1 : Int64) <<< ((nI r).toInt64 &&& 63))) = pv_add (pv_R a b) 1 r := by
  funext q
  by_cases e : q = 1
  · subst e
    rw [pv_add_s]
    funext t
    show pv_B _ t = (pv_B b t ∨ t = r)
    exact propext ((pv_B_or _ _ t).trans (or_congr Iff.rfl (pv_B_sh hr t)))
  · rw [pv_add_n e]
    simp only [pv_R, if_neg e]
/-- what the law remembers of process 0's handlers -/
def pv_W (y10 y11 y12 y13 y14 y15 y16 y17 y18 y19 y20 y21 : Int32) (dp sp fc fa fb fm : Nat → Int32) : Prop := ∃ d, d ≤ 2 ∧ dp 0 = nI d ∧ sp 0 = nI (64 - 4 * d) ∧ (¬ y10 = 0 → 1 ≤ d ∧ fc 0 = y12 ∧ fa 0 = y13 ∧ fb 0 = y14 ∧ fm 0 = y15 ∧ y16 = 64) ∧ (¬ y11 = 0 → 2 ≤ d ∧ fc 1 = y17 ∧ fa 1 = y18 ∧ fb 1 = y19 ∧ fm 1 = y20 ∧ y21 = 60)
def pv_T (nd L m : Nat) (rt0 st0 rt1 st1 : Int64) (y10 y11 y12 y13 y14 y15 y16 y17 y18 y19 y20 y21 : Int32) (co dp sp fc fa fb fm lf pg ss ql qs qr hd ek ep ev er : Nat → Int32) : Prop :=
  pv_X nd co dp ql qs hd ∧ (m ≤ 128 → pv_GA m L lf pg ss ql qs qr ek ep ev er (pv_R rt0 rt1) (pv_R st0 st1)) ∧ pv_W y10 y11 y12 y13 y14 y15 y16 y17 y18 y19 y20 y21 dp sp fc fa fb fm
section
variable {nd es : Nat} {ls et : Int32} {co ca pc ra rb sp mk dp fc fa fb fm sl st lf su pg ss ql qs qr hd fl ek ep ev er : Nat → Int32}
variable {m L N i : Nat} {xs : Nat → Int32} {kc ks : Nat} {rt0 st0 rt1 st1 : Int64} {y10 y11 y12 y13 y14 y15 y16 y17 y18 y19 y20 y21 : Int32} {J : Int64 → Int64 → Int64 → Int64 → Int32 → Int32 → Int32 → Int32 → Int32 → Int32 → Int32 → Int32 → Int32 → Int32 → Int32 → Int32 → Int32 → Int32 → Int32 → Int32 → Int32 → Int32 → (Nat → Int32) → (Nat → Int32) → (Nat → Int32) → (Nat → Int32) → (Nat → Int32) → (Nat → Int32) → (Nat → Int32) → (Nat → Int32) → (Nat → Int32) → (Nat → Int32) → (Nat → Int32) → (Nat → Int32) → (Nat → Int32) → (Nat → Int32) → (Nat → Int32) → (Nat → Int32) → (Nat → Int32) → (Nat → Int32) → (Nat → Int32) → (Nat → Int32) → (Nat → Int32) → (Nat → Int32) → (Nat → Int32) → (Nat → Int32) → (Nat → Int32) → (Nat → Int32) → (Nat → Int32) → Prop}
theorem pv_953 (hm : es = min m 128) (hm2 : m ≤ 1000) (hL : L ≤ 63) (hT : pv_T nd L m rt0 st0 rt1 st1 y10 y11 y12 y13 y14 y15 y16 y17 y18 y19 y20 y21 co dp sp fc fa fb fm lf pg ss ql qs qr hd ek ep ev er) (HJ : ∀ {rt0 st0 rt1 st1 : Int64} {y10 y11 y12 y13 y14 y15 y16 y17 y18 y19 y20 y21 : Int32} {L9 m9 nd9 : Nat} {co9 ca9 pc9 ra9 rb9 sp9 mk9 dp9 fc9 fa9 fb9 fm9 sl9 st9 lf9 su9 pg9 ss9 ql9 qs9 qr9 hd9 fl9 ek9 ep9 ev9 er9 : Nat → Int32}, m9 ≤ 128 → L9 ≤ 63 → pv_T nd9 L9 m9 rt0 st0 rt1 st1 y10 y11 y12 y13 y14 y15 y16 y17 y18 y19 y20 y21 co9 dp9 sp9 fc9 fa9 fb9 fm9 lf9 pg9 ss9 ql9 qs9 qr9 hd9 ek9 ep9 ev9 er9 → J rt0 st0 rt1 st1 y10 y11 y12 y13 y14 y15 y16 y17 y18 y19 y20 y21 (nI (i + 3)) (nI 2) (nI nd9) (nI L9) (nI m9) (nI m9) co9 ca9 pc9 ra9 rb9 sp9 mk9 dp9 fc9 fa9 fb9 fm9 sl9 st9 lf9 su9 pg9 ss9 ql9 qs9 qr9 hd9 fl9 ek9 ep9 ev9 er9) : wL_law_953 (fun r => r = 1) N xs J rt0 st0 rt1 st1 y10 y11 y12 y13 y14 y15 y16 y17 y18 y19 y20 y21 (nI i)  kc ks (nI 2) (nI nd) (nI L) (nI m) (nI es) co ca pc ra rb sp mk dp fc fa fb fm sl st lf su pg ss ql qs qr hd fl ek ep ev er := by
  unfold wL_law_953
  refine sx_lt ?_
  by_cases h : m ≤ 128
  · have e : es = m := by omega
    subst e
    obtain ⟨a, b⟩ := hT.2.1 h
    refine br_t (nI_le (b := 128) h (by decide)) ?_
    refine pv_so (p := 0) (L := L) (by decide) h hL (a 0 (by decide)) ?_
    refine br_f (by decide) ?_
    refine pv_so (p := 1) (L := L) (by decide) h hL (a 1 (by decide)) ?_
    refine br_f (by decide) ?_
    refine pv_lo (L := L) h hL (a 0 (by decide)) (a 1 (by decide)) b ?_
    refine br_f (by decide) (nm_r (nI_add i 3) ?_)
    exact HJ h hL hT
  · exact br_f (nI_ge (a := 128) (by omega) (by omega)) rfl
theorem pv_S0 (hm : m ≤ 128) (hT : pv_T nd L m rt0 st0 rt1 st1 y10 y11 y12 y13 y14 y15 y16 y17 y18 y19 y20 y21 co dp sp fc fa fb fm lf pg ss ql qs qr hd ek ep ev er) : pv_S L (pv_B rt0) (pv_B st0) ∧ pv_S L (pv_B rt1) (pv_B st1) := by
  obtain ⟨_, _, _, a0⟩ := (hT.2.1 hm).1 0 (by decide)
  obtain ⟨_, _, _, a1⟩ := (hT.2.1 hm).1 1 (by decide)
  exact ⟨a0.1, a1.1⟩
theorem pv_789 {p g : Nat} (hp : p < 2) (h1 : 1 ≤ g) (hg : g < 32) (hm : m ≤ 128) (hL : L ≤ 63) (hT : pv_T nd L m rt0 st0 rt1 st1 y10 y11 y12 y13 y14 y15 y16 y17 y18 y19 y20 y21 co dp sp fc fa fb fm lf pg ss ql qs qr hd ek ep ev er) (HJ : ∀ {rt0 st0 rt1 st1 : Int64} {y10 y11 y12 y13 y14 y15 y16 y17 y18 y19 y20 y21 : Int32} {L9 m9 nd9 : Nat} {co9 ca9 pc9 ra9 rb9 sp9 mk9 dp9 fc9 fa9 fb9 fm9 sl9 st9 lf9 su9 pg9 ss9 ql9 qs9 qr9 hd9 fl9 ek9 ep9 ev9 er9 : Nat → Int32}, m9 ≤ 128 → L9 ≤ 63 → pv_T nd9 L9 m9 rt0 st0 rt1 st1 y10 y11 y12 y13 y14 y15 y16 y17 y18 y19 y20 y21 co9 dp9 sp9 fc9 fa9 fb9 fm9 lf9 pg9 ss9 ql9 qs9 qr9 hd9 ek9 ep9 ev9 er9 → J rt0 st0 rt1 st1 y10 y11 y12 y13 y14 y15 y16 y17 y18 y19 y20 y21 (nI (i + 3)) (nI 2) (nI nd9) (nI L9) (nI m9) (nI m9) co9 ca9 pc9 ra9 rb9 sp9 mk9 dp9 fc9 fa9 fb9 fm9 sl9 st9 lf9 su9 pg9 ss9 ql9 qs9 qr9 hd9 fl9 ek9 ep9 ev9 er9) : wL_law_789 (fun r => r = 1) N xs J rt0 st0 rt1 st1 y10 y11 y12 y13 y14 y15 y16 y17 y18 y19 y20 y21 (nI i) (nI p) (nI g) kc ks (nI 2) (nI nd) (nI L) (nI m) (nI m) co ca pc ra rb sp mk dp fc fa fb fm sl st lf su pg ss ql qs qr hd fl ek ep ev er := by
  obtain ⟨hS0, hS1⟩ := pv_S0 hm hT
  obtain ⟨hx, hG, hW⟩ := hT
  have hnew : ¬ pv_B (((rt0 ||| st0) ||| rt1) ||| st1) (L + 1) := fun z => by
    rcases (pv_B_or _ _ _).mp z with z | z
    · rcases (pv_B_or _ _ _).mp z with z | z
      · rcases (pv_B_or _ _ _).mp z with z | z
        · have := (hS0.1 _ z).2; omega
        · have := (hS0.2.1 _ z).2; omega
      · have := (hS1.1 _ z).2; omega
    · have := (hS1.2.1 _ z).2; omega
  unfold wL_law_789
  refine pv_send (R := pv_R rt0 rt1) (T := pv_R st0 st1) (m := m) (L := L) hp (by omega) h1 hg hx (by omega) hG (fun S => ?_)
  obtain ⟨hx1, m1, rfl, hm1, hmm, hc⟩ := S
  rcases hc with ⟨hr, rfl, hG1⟩ | ⟨rfl, rfl, g16, hG1⟩ | ⟨rfl, rfl, g16, hG1⟩
  · refine br_t (Int32.le_trans hr (by decide)) (br_t hr ?_)
    unfold wL_law_893
    exact pv_953 hm1 (by omega) hL ⟨hx1, hG1, hW⟩ HJ
  · by_cases hL1 : L + 1 ≤ 63
    · refine br_t (nI_le (b := 63) hL1 (by decide)) (br_f (nI_nle (by omega) (by omega)) ?_)
      refine pv_has (by omega) (fun _ hb => absurd hb hnew) (fun _ => ?_)
      refine br_t rfl (nm_e (br_t (nI_lt (b := 16) g16 (by decide)) ?_))
      have : p = 0 ∨ p = 1 := by omega
      rcases this with rfl | rfl
      · refine br_t rfl (nm_e ?_)
        unfold wL_law_893
        exact pv_953 hm1 (by omega) hL1 ⟨hx1, by rw [pv_R_add0 (by omega)]; exact hG1, hW⟩ HJ
      · refine br_f (by decide) (nm_e ?_)
        unfold wL_law_893
        exact pv_953 hm1 (by omega) hL1 ⟨hx1, by rw [pv_R_add1 (by omega)]; exact hG1, hW⟩ HJ
    · exact br_f (nI_ge (a := 63) (by omega) (by omega)) rfl
  · by_cases hL1 : L + 1 ≤ 63
    · refine br_t (nI_le (b := 63) hL1 (by decide)) (br_f (nI_nle (by omega) (by omega)) ?_)
      refine pv_has (by omega) (fun _ hb => absurd hb hnew) (fun _ => ?_)
      refine br_t rfl (nm_e (br_f (nI_nlt (b := 16) g16 (by omega)) ?_))
      have : p = 0 ∨ p = 1 := by omega
      rcases this with rfl | rfl
      · refine br_t rfl (nm_e ?_)
        unfold wL_law_893
        exact pv_953 hm1 (by omega) hL1 ⟨hx1, by rw [pv_R_add0 (by omega)]; exact hG1, hW⟩ HJ
      · refine br_f (by decide) (nm_e ?_)
        unfold wL_law_893
        exact pv_953 hm1 (by omega) hL1 ⟨hx1, by rw [pv_R_add1 (by omega)]; exact hG1, hW⟩ HJ
    · exact br_f (nI_ge (a := 63) (by omega) (by omega)) rfl
theorem pv_seta {post : Int32 → St2 → Prop} {p : Nat} {k x f : Int32} (hp : p < 2) (hx : pv_X nd co dp ql qs hd) (K : ∀ (r : Int32) {hd1 fl1 : Nat → Int32}, pv_X nd co dp ql qs hd1 → post r (nI 2, nI nd, ls, et, nI es, co, ca, pc, ra, rb, sp, mk, dp, fc, fa, fb, fm, sl, st, lf, su, pg, ss, ql, qs, qr, hd1, fl1, ek, ep, ev, er)) : wpX_setAction post (nI 2, nI nd, ls, et, nI es, co, ca, pc, ra, rb, sp, mk, dp, fc, fa, fb, fm, sl, st, lf, su, pg, ss, ql, qs, qr, hd, fl, ek, ep, ev, er) (nI p) k x f := by
  by_cases hl : lf p = 0
  · rcases sk_cat k with hk | ⟨g, h1, hg, h9, h15, rfl⟩
    · exact sx_seta0 (np := 2) hp (by decide) hl hk (K _ hx)
    · rcases sk_hd x with hxx | ⟨n1, n2, hxx⟩
      · have hx' : x = -2 ∨ x = -1 ∨ 0 ≤ x := hxx.imp_right fun z => z.imp_right fun ⟨j, hj, e⟩ => by rw [e]; exact nI_pos' (by omega)
        exact sx_seta1 (np := 2) hp (by decide) hl h1 hg h9 h15 hxx (K _ ⟨hx.1, hx.2.1, hx.2.2.1, hx.2.2.2.1, sk_HD_u hx.2.2.2.2 hx'⟩)
      · exact sx_seta2 (np := 2) hp (by decide) hl h1 hg h9 h15 n1 n2 hxx (K _ hx)
  · unfold wpX_setAction
    refine sx_al2 (np := 2) hp (by decide) hl ?_
    exact br_t rfl (K _ hx)
theorem pv_927 {p : Nat} {x24 x25 z0 : Int32} (hp : p < 2) (hm : m ≤ 128) (hL : L ≤ 63) (hT : pv_T nd L m rt0 st0 rt1 st1 y10 y11 y12 y13 y14 y15 y16 y17 y18 y19 y20 y21 co dp sp fc fa fb fm lf pg ss ql qs qr hd ek ep ev er) (HJ : ∀ {rt0 st0 rt1 st1 : Int64} {y10 y11 y12 y13 y14 y15 y16 y17 y18 y19 y20 y21 : Int32} {L9 m9 nd9 : Nat} {co9 ca9 pc9 ra9 rb9 sp9 mk9 dp9 fc9 fa9 fb9 fm9 sl9 st9 lf9 su9 pg9 ss9 ql9 qs9 qr9 hd9 fl9 ek9 ep9 ev9 er9 : Nat → Int32}, m9 ≤ 128 → L9 ≤ 63 → pv_T nd9 L9 m9 rt0 st0 rt1 st1 y10 y11 y12 y13 y14 y15 y16 y17 y18 y19 y20 y21 co9 dp9 sp9 fc9 fa9 fb9 fm9 lf9 pg9 ss9 ql9 qs9 qr9 hd9 ek9 ep9 ev9 er9 → J rt0 st0 rt1 st1 y10 y11 y12 y13 y14 y15 y16 y17 y18 y19 y20 y21 (nI (i + 3)) (nI 2) (nI nd9) (nI L9) (nI m9) (nI m9) co9 ca9 pc9 ra9 rb9 sp9 mk9 dp9 fc9 fa9 fb9 fm9 sl9 st9 lf9 su9 pg9 ss9 ql9 qs9 qr9 hd9 fl9 ek9 ep9 ev9 er9) : wL_law_927 (fun r => r = 1) N xs J rt0 st0 rt1 st1 y10 y11 y12 y13 y14 y15 y16 y17 y18 y19 y20 y21 (nI i) x24 x25 (nI p) z0 kc ks (nI 2) (nI nd) (nI L) (nI m) (nI m) co ca pc ra rb sp mk dp fc fa fb fm sl st lf su pg ss ql qs qr hd fl ek ep ev er := by
  obtain ⟨hx, hG, hW⟩ := hT
  unfold wL_law_927
  refine ⟨by decide, ?_⟩
  refine pv_seta hp hx (fun r => ?_)
  intro hd1 fl1 hx1
  exact pv_953 (by omega) (by omega) hL ⟨hx1, hG, hW⟩ HJ
theorem pv_561s {d : Nat} (hdd : d ≤ 2) (hm : es = min m 128) (hm2 : m ≤ 1000) (hL : L ≤ 63) (hT : pv_T nd L m rt0 st0 rt1 st1 y10 y11 y12 y13 y14 y15 y16 y17 y18 y19 y20 y21 co dp sp fc fa fb fm lf pg ss ql qs qr hd ek ep ev er) (HJ : ∀ {rt0 st0 rt1 st1 : Int64} {y10 y11 y12 y13 y14 y15 y16 y17 y18 y19 y20 y21 : Int32} {L9 m9 nd9 : Nat} {co9 ca9 pc9 ra9 rb9 sp9 mk9 dp9 fc9 fa9 fb9 fm9 sl9 st9 lf9 su9 pg9 ss9 ql9 qs9 qr9 hd9 fl9 ek9 ep9 ev9 er9 : Nat → Int32}, m9 ≤ 128 → L9 ≤ 63 → pv_T nd9 L9 m9 rt0 st0 rt1 st1 y10 y11 y12 y13 y14 y15 y16 y17 y18 y19 y20 y21 co9 dp9 sp9 fc9 fa9 fb9 fm9 lf9 pg9 ss9 ql9 qs9 qr9 hd9 ek9 ep9 ev9 er9 → J rt0 st0 rt1 st1 y10 y11 y12 y13 y14 y15 y16 y17 y18 y19 y20 y21 (nI (i + 3)) (nI 2) (nI nd9) (nI L9) (nI m9) (nI m9) co9 ca9 pc9 ra9 rb9 sp9 mk9 dp9 fc9 fa9 fb9 fm9 sl9 st9 lf9 su9 pg9 ss9 ql9 qs9 qr9 hd9 fl9 ek9 ep9 ev9 er9) : wL_law_561 (fun r => r = 1) N xs J rt0 st0 rt1 st1 y10 y11 y12 y13 y14 y15 y16 y17 y18 y19 y20 y21 (nI i) (nI d) (nI d) kc ks (nI 2) (nI nd) (nI L) (nI m) (nI es) co ca pc ra rb sp mk dp fc fa fb fm sl st lf su pg ss ql qs qr hd fl ek ep ev er := by
  have hc : d = 0 ∨ d = 1 ∨ d = 2 := by omega
  unfold wL_law_561
  refine br_f (by rcases hc with rfl | rfl | rfl <;> decide) ?_
  unfold wL_law_743
  refine br_t rfl ?_
  unfold wL_law_756
  exact pv_953 hm hm2 hL hT HJ
theorem pv_561p {d : Nat} (hdd : d < 2) (hm : es = min m 128) (hm2 : m ≤ 1000) (hL : L ≤ 63) (h0 : d = 0 → pv_T nd L m rt0 st0 rt1 st1 0 y11 y12 y13 y14 y15 y16 y17 y18 y19 y20 y21 co dp sp fc fa fb fm lf pg ss ql qs qr hd ek ep ev er) (h1 : d = 1 → pv_T nd L m rt0 st0 rt1 st1 y10 0 y12 y13 y14 y15 y16 y17 y18 y19 y20 y21 co dp sp fc fa fb fm lf pg ss ql qs qr hd ek ep ev er)
    (g0 : d = 0 → ¬ y10 = 0 → pc 0 = y12 ∧ ra 0 = y13 ∧ rb 0 = y14 ∧ mk 0 = y15 ∧ sp 0 = y16) (g1 : d = 1 → ¬ y11 = 0 → pc 0 = y17 ∧ ra 0 = y18 ∧ rb 0 = y19 ∧ mk 0 = y20 ∧ sp 0 = y21) (HJ : ∀ {rt0 st0 rt1 st1 : Int64} {y10 y11 y12 y13 y14 y15 y16 y17 y18 y19 y20 y21 : Int32} {L9 m9 nd9 : Nat} {co9 ca9 pc9 ra9 rb9 sp9 mk9 dp9 fc9 fa9 fb9 fm9 sl9 st9 lf9 su9 pg9 ss9 ql9 qs9 qr9 hd9 fl9 ek9 ep9 ev9 er9 : Nat → Int32}, m9 ≤ 128 → L9 ≤ 63 → pv_T nd9 L9 m9 rt0 st0 rt1 st1 y10 y11 y12 y13 y14 y15 y16 y17 y18 y19 y20 y21 co9 dp9 sp9 fc9 fa9 fb9 fm9 lf9 pg9 ss9 ql9 qs9 qr9 hd9 ek9 ep9 ev9 er9 → J rt0 st0 rt1 st1 y10 y11 y12 y13 y14 y15 y16 y17 y18 y19 y20 y21 (nI (i + 3)) (nI 2) (nI nd9) (nI L9) (nI m9) (nI m9) co9 ca9 pc9 ra9 rb9 sp9 mk9 dp9 fc9 fa9 fb9 fm9 sl9 st9 lf9 su9 pg9 ss9 ql9 qs9 qr9 hd9 fl9 ek9 ep9 ev9 er9) : wL_law_561 (fun r => r = 1) N xs J rt0 st0 rt1 st1 y10 y11 y12 y13 y14 y15 y16 y17 y18 y19 y20 y21 (nI i) (nI (d + 1)) (nI d) kc ks (nI 2) (nI nd) (nI L) (nI m) (nI es) co ca pc ra rb sp mk dp fc fa fb fm sl st lf su pg ss ql qs qr hd fl ek ep ev er := by
  have end0 : d = 0 → wL_law_726 (fun r => r = 1) N xs J rt0 st0 rt1 st1 y10 y11 y12 y13 y14 y15 y16 y17 y18 y19 y20 y21 (nI i) (nI d) kc ks (nI 2) (nI nd) (nI L) (nI m) (nI es) co ca pc ra rb sp mk dp fc fa fb fm sl st lf su pg ss ql qs qr hd fl ek ep ev er := fun z => by
    subst z
    unfold wL_law_726
    refine br_t rfl ?_
    unfold wL_law_756
    exact pv_953 hm hm2 hL (h0 rfl) HJ
  have end1 : d = 1 → wL_law_726 (fun r => r = 1) N xs J rt0 st0 rt1 st1 y10 y11 y12 y13 y14 y15 y16 y17 y18 y19 y20 y21 (nI i) (nI d) kc ks (nI 2) (nI nd) (nI L) (nI m) (nI es) co ca pc ra rb sp mk dp fc fa fb fm sl st lf su pg ss ql qs qr hd fl ek ep ev er := fun z => by
    subst z
    unfold wL_law_726
    refine br_f (by decide) ?_
    unfold wL_law_756
    exact pv_953 hm hm2 hL (h1 rfl) HJ
  unfold wL_law_561
  refine br_t (nI_pred d).symm (br_f (nI_pos (by omega)) (br_f (nI_ge (b := 2) hdd (by decide)) ?_))
  have hc : d = 0 ∨ d = 1 := by omega
  rcases hc with rfl | rfl
  · refine br_t rfl (br_c (fun _ => end0 rfl) fun z => ?_)
    obtain ⟨e1, e2, e3, e4, e5⟩ := g0 rfl z
    unfold wL_law_599
    refine br_t rfl ?_
    unfold wL_law_611
    refine br_t rfl ?_
    unfold wL_law_625
    refine br_t rfl ?_
    unfold wL_law_639
    refine br_t rfl ?_
    unfold wL_law_653
    refine br_t rfl ?_
    unfold wL_law_667
    refine sx_reg0 (p := 0) (by decide) (br_t e1 ?_)
    refine sx_reg1 (p := 0) (by decide) (br_t e2 ?_)
    refine sx_reg2 (p := 0) (by decide) (br_t e3 ?_)
    refine sx_reg4 (p := 0) (by decide) (br_t e4 ?_)
    refine sx_reg3 (p := 0) (by decide) (br_t e5 ?_)
    exact end0 rfl
  · refine br_f (by decide) (br_c (fun _ => end1 rfl) fun z => ?_)
    obtain ⟨e1, e2, e3, e4, e5⟩ := g1 rfl z
    unfold wL_law_599
    refine br_f (by decide) ?_
    unfold wL_law_611
    refine br_f (by decide) ?_
    unfold wL_law_625
    refine br_f (by decide) ?_
    unfold wL_law_639
    refine br_f (by decide) ?_
    unfold wL_law_653
    refine br_f (by decide) ?_
    unfold wL_law_667
    refine sx_reg0 (p := 0) (by decide) (br_t e1 ?_)
    refine sx_reg1 (p := 0) (by decide) (br_t e2 ?_)
    refine sx_reg2 (p := 0) (by decide) (br_t e3 ?_)
    refine sx_reg4 (p := 0) (by decide) (br_t e4 ?_)
    refine sx_reg3 (p := 0) (by decide) (br_t e5 ?_)
    exact end1 rfl
/-- the law's word of the handlers that restart -/
def pv_rb (x : Int32) (fl : Nat → Int32) (k : Nat) : Prop := ∀ g, g < 32 → (bt x g = true ↔ 1 ≤ g ∧ g < k ∧ ¬ fl (0 * 32 + g) &&& 1 = 0)
theorem pv_rbit {x : Int32} {g : Nat} (hg : g < 32) : ((x.toUInt32 >>> ((nI g).toUInt32 &&& Int32.toUInt32 31)).toInt32 &&& 1) = 0 ↔ bt x g = false := by
  rw [nf_bit x g hg, sk_and0 hg]
theorem pv_437 {d g : Nat} {p0 a0 b k s l0 x35 : Int32} {sl' pc' ra' fl' : Nat → Int32} (hdd : d < 2) (h1 : 1 ≤ g) (hg : g < 32) (hm : es = min m 128) (hm2 : m ≤ 1000) (hL : L ≤ 63) (hrb : pv_rb x35 fl' 32) (e1 : sl' 0 = l0) (e2 : pc' 0 = p0) (e3 : ra' 0 = a0)
    (hT : ∀ c a, c = sk_itC sl' pc' 0 (fl' (0 * 32 + g)) → a = sk_itA sl' ra' 0 (fl' (0 * 32 + g)) → (d = 0 → pv_T nd L m rt0 st0 rt1 st1 1 y11 c a b k s y17 y18 y19 y20 y21 co dp sp fc fa fb fm lf pg ss ql qs qr hd ek ep ev er) ∧ (d = 1 → pv_T nd L m rt0 st0 rt1 st1 y10 1 y12 y13 y14 y15 y16 c a b k s co dp sp fc fa fb fm lf pg ss ql qs qr hd ek ep ev er)) (HJ : ∀ {rt0 st0 rt1 st1 : Int64} {y10 y11 y12 y13 y14 y15 y16 y17 y18 y19 y20 y21 : Int32} {L9 m9 nd9 : Nat} {co9 ca9 pc9 ra9 rb9 sp9 mk9 dp9 fc9 fa9 fb9 fm9 sl9 st9 lf9 su9 pg9 ss9 ql9 qs9 qr9 hd9 fl9 ek9 ep9 ev9 er9 : Nat → Int32}, m9 ≤ 128 → L9 ≤ 63 → pv_T nd9 L9 m9 rt0 st0 rt1 st1 y10 y11 y12 y13 y14 y15 y16 y17 y18 y19 y20 y21 co9 dp9 sp9 fc9 fa9 fb9 fm9 lf9 pg9 ss9 ql9 qs9 qr9 hd9 ek9 ep9 ev9 er9 → J rt0 st0 rt1 st1 y10 y11 y12 y13 y14 y15 y16 y17 y18 y19 y20 y21 (nI (i + 3)) (nI 2) (nI nd9) (nI L9) (nI m9) (nI m9) co9 ca9 pc9 ra9 rb9 sp9 mk9 dp9 fc9 fa9 fb9 fm9 sl9 st9 lf9 su9 pg9 ss9 ql9 qs9 qr9 hd9 fl9 ek9 ep9 ev9 er9) : wL_law_437 (fun r => r = 1) N xs J rt0 st0 rt1 st1 y10 y11 y12 y13 y14 y15 y16 y17 y18 y19 y20 y21 (nI i) (nI d) p0 a0 b k s l0 x35 (nI g) kc ks (nI 2) (nI nd) (nI L) (nI m) (nI es) co ca pc ra rb sp mk dp fc fa fb fm sl st lf su pg ss ql qs qr hd fl ek ep ev er := by
  have fin : ∀ c a, c = sk_itC sl' pc' 0 (fl' (0 * 32 + g)) → a = sk_itA sl' ra' 0 (fl' (0 * 32 + g)) → wL_law_502 (fun r => r = 1) N xs J rt0 st0 rt1 st1 y10 y11 y12 y13 y14 y15 y16 y17 y18 y19 y20 y21 (nI i) (nI d) b k s c a kc ks (nI 2) (nI nd) (nI L) (nI m) (nI es) co ca pc ra rb sp mk dp fc fa fb fm sl st lf su pg ss ql qs qr hd fl ek ep ev er := fun c a ec ea => by
    obtain ⟨t0, t1⟩ := hT c a ec ea
    have hc : d = 0 ∨ d = 1 := by omega
    unfold wL_law_502
    rcases hc with rfl | rfl
    · refine br_t rfl ?_
      unfold wL_law_558 wL_law_756
      exact pv_953 hm hm2 hL (t0 rfl) HJ
    · refine br_f (by decide) ?_
      unfold wL_law_558 wL_law_756
      exact pv_953 hm hm2 hL (t1 rfl) HJ
  have no : ¬ (0 < sl' 0 ∧ fl' (0 * 32 + g) &&& 1 = 0) → wL_law_471 (fun r => r = 1) N xs J rt0 st0 rt1 st1 y10 y11 y12 y13 y14 y15 y16 y17 y18 y19 y20 y21 (nI i) (nI d) p0 a0 b k s kc ks (nI 2) (nI nd) (nI L) (nI m) (nI es) co ca pc ra rb sp mk dp fc fa fb fm sl st lf su pg ss ql qs qr hd fl ek ep ev er := fun z => by
    unfold wL_law_471 wL_law_472
    refine br_t rfl ?_
    unfold wL_law_488
    refine br_t rfl ?_
    exact fin _ _ (by unfold sk_itC; rw [if_neg z, e2]) (by unfold sk_itA; rw [if_neg z, e3])
  unfold wL_law_437
  refine br_f (nI_nlt (b := 1) h1 (by omega)) (br_t (nI_le (b := 31) (by omega) (by decide)) (br_c (fun z => ?_) fun z => br_c (fun y => ?_) fun y => ?_))
  · exact no fun y => absurd y.1 (by rw [e1]; exact Int32.not_lt.mpr z)
  · have y' := (pv_rbit hg).mp y
    have f1 : fl' (0 * 32 + g) &&& 1 = 0 := Classical.byContradiction fun t => by
      have := (hrb g hg).mpr ⟨h1, hg, t⟩
      rw [this] at y'
      exact absurd y' (by decide)
    have yy : 0 < sl' 0 ∧ fl' (0 * 32 + g) &&& 1 = 0 := ⟨by rw [e1]; exact Int32.not_le.mp z, f1⟩
    unfold wL_law_472
    refine br_f (by decide) ?_
    unfold wL_law_488
    refine br_f (by decide) ?_
    exact fin _ _ (by unfold sk_itC; rw [if_pos yy, e2]) (by unfold sk_itA; rw [if_pos yy])
  · have y' : bt x35 g = true := ts_nf fun t => y ((pv_rbit hg).mpr t)
    exact no fun t => ((hrb g hg).mp y').2.2 t.2
theorem pv_389 {d g : Nat} {p0 a0 b k s l0 x35 : Int32} {j m2 : Nat} (hj : j < m2) (hm2 : m2 ≤ 128) (he : es = m2) (h1 : 1 ≤ g) (hg : g < 32) (k1 : ek j = 1) (k2 : ep j = nI 0) (k3 : ev j = nI g) (H : wL_law_437 (fun r => r = 1) N xs J rt0 st0 rt1 st1 y10 y11 y12 y13 y14 y15 y16 y17 y18 y19 y20 y21 (nI i) (nI d) p0 a0 b k s l0 x35 (nI g) kc ks (nI 2) (nI nd) (nI L) (nI m) (nI es) co ca pc ra rb sp mk dp fc fa fb fm sl st lf su pg ss ql qs qr hd fl ek ep ev er) : ∃ fu389, wL_law_389 (fun r => r = 1) N xs J rt0 st0 rt1 st1 y10 y11 y12 y13 y14 y15 y16 y17 y18 y19 y20 y21 (nI i) (nI d) p0 a0 b k s l0 x35 (nI m2) kc ks (nI 2) (nI nd) (nI L) (nI m) (nI es) co ca pc ra rb sp mk dp fc fa fb fm sl st lf su pg ss ql qs qr hd fl ek ep ev er fu389 0 (nI j) := by
  subst he
  refine ⟨2, ?_⟩
  rw [wL_law_389]
  refine br_f (nI_ge hj (by omega)) (br_t rfl ?_)
  refine sx_lf0 hj hm2 (br_t k1 ?_)
  refine sx_lf1 hj hm2 (br_t k2 ?_)
  refine sx_lf2 hj hm2 (nm_e ?_)
  rw [k3, wL_law_389]
  exact br_c (fun _ => H) fun _ => br_f (nI_ne0 h1 (by omega)) H
end
end
section
section
variable {nd es : Nat} {ls et : Int32} {co ca pc ra rb sp mk dp fc fa fb fm sl st lf su pg ss ql qs qr hd fl ek ep ev er : Nat → Int32}
variable {m L N i : Nat} {xs : Nat → Int32} {kc ks : Nat} {rt0 st0 rt1 st1 : Int64} {y10 y11 y12 y13 y14 y15 y16 y17 y18 y19 y20 y21 : Int32} {J : Int64 → Int64 → Int64 → Int64 → Int32 → Int32 → Int32 → Int32 → Int32 → Int32 → Int32 → Int32 → Int32 → Int32 → Int32 → Int32 → Int32 → Int32 → Int32 → Int32 → Int32 → Int32 → (Nat → Int32) → (Nat → Int32) → (Nat → Int32) → (Nat → Int32) → (Nat → Int32) → (Nat → Int32) → (Nat → Int32) → (Nat → Int32) → (Nat → Int32) → (Nat → Int32) → (Nat → Int32) → (Nat → Int32) → (Nat → Int32) → (Nat → Int32) → (Nat → Int32) → (Nat → Int32) → (Nat → Int32) → (Nat → Int32) → (Nat → Int32) → (Nat → Int32) → (Nat → Int32) → (Nat → Int32) → (Nat → Int32) → (Nat → Int32) → (Nat → Int32) → (Nat → Int32) → (Nat → Int32) → Prop}
theorem sx_ga {post : Int32 → Prop} {p g : Nat} (hp : p < 2) (h1 : 1 ≤ g) (hg : g < 32) (h : post (fl (p * 32 + g))) : wpX_getAction post (nI 2, nI nd, ls, et, nI es, co, ca, pc, ra, rb, sp, mk, dp, fc, fa, fb, fm, sl, st, lf, su, pg, ss, ql, qs, qr, hd, fl, ek, ep, ev, er) (nI p) (nI g) 1 := by
  unfold wpX_getAction
  refine sx_pid1 (np := 2) hp (by decide) ?_
  refine br_f (by decide) ?_
  refine sx_sig1 h1 hg ?_
  refine br_f (by decide) (nm_r (sk_ix32 p g) (br_f (by decide) (br_t rfl ⟨vp_in_nI (by omega) (by decide), ?_⟩)))
  rw [nI_clamp (by omega)]
  exact h
theorem pv_rb_s {x : Int32} {k : Nat} (h : pv_rb x fl k) (z : fl (0 * 32 + k) &&& 1 = 0) : pv_rb x fl (k + 1) := by
  intro g hg
  rw [h g hg]
  constructor
  · exact fun y => ⟨y.1, by omega, y.2.2⟩
  · intro y
    refine ⟨y.1, ?_, y.2.2⟩
    by_cases e : g = k
    · subst e; exact absurd z y.2.2
    · omega
theorem pv_rb_t {x : Int32} {k : Nat} (h1 : 1 ≤ k) (hk : k < 32) (h : pv_rb x fl k) (z : ¬ fl (0 * 32 + k) &&& 1 = 0) : pv_rb (x ||| ((1 : Int32) <<< (nI k &&& 31))) fl (k + 1) := by
  intro g hg
  rw [b_or, sk_bit hk, Bool.or_eq_true, h g hg, decide_eq_true_eq]
  constructor
  · rintro (y | y)
    · exact ⟨y.1, by omega, y.2.2⟩
    · subst y; exact ⟨h1, by omega, z⟩
  · intro y
    by_cases e : g = k
    · exact Or.inr e
    · exact Or.inl ⟨y.1, by omega, y.2.2⟩
theorem pv_289 {d : Nat} (hd3 : d ≤ 2) (hm : m ≤ 128) (hL : L ≤ 63) (hdd : dp 0 = nI d) (hT : pv_T nd L m rt0 st0 rt1 st1 y10 y11 y12 y13 y14 y15 y16 y17 y18 y19 y20 y21 co dp sp fc fa fb fm lf pg ss ql qs qr hd ek ep ev er) (HJ : ∀ {rt0 st0 rt1 st1 : Int64} {y10 y11 y12 y13 y14 y15 y16 y17 y18 y19 y20 y21 : Int32} {L9 m9 nd9 : Nat} {co9 ca9 pc9 ra9 rb9 sp9 mk9 dp9 fc9 fa9 fb9 fm9 sl9 st9 lf9 su9 pg9 ss9 ql9 qs9 qr9 hd9 fl9 ek9 ep9 ev9 er9 : Nat → Int32}, m9 ≤ 128 → L9 ≤ 63 → pv_T nd9 L9 m9 rt0 st0 rt1 st1 y10 y11 y12 y13 y14 y15 y16 y17 y18 y19 y20 y21 co9 dp9 sp9 fc9 fa9 fb9 fm9 lf9 pg9 ss9 ql9 qs9 qr9 hd9 ek9 ep9 ev9 er9 → J rt0 st0 rt1 st1 y10 y11 y12 y13 y14 y15 y16 y17 y18 y19 y20 y21 (nI (i + 3)) (nI 2) (nI nd9) (nI L9) (nI m9) (nI m9) co9 ca9 pc9 ra9 rb9 sp9 mk9 dp9 fc9 fa9 fb9 fm9 sl9 st9 lf9 su9 pg9 ss9 ql9 qs9 qr9 hd9 fl9 ek9 ep9 ev9 er9) : ∀ dd k x35, k + dd = 32 → 1 ≤ k → pv_rb x35 fl k → wL_law_289 (fun r => r = 1) N xs J rt0 st0 rt1 st1 y10 y11 y12 y13 y14 y15 y16 y17 y18 y19 y20 y21 (nI i) (nI d) (pc 0) (ra 0) (rb 0) (mk 0) (sp 0) (sl 0) kc ks (nI 2) (nI nd) (nI L) (nI m) (nI m) co ca pc ra rb sp mk dp fc fa fb fm sl st lf su pg ss ql qs qr hd fl ek ep ev er (dd + 1) x35 (nI k) := by
  intro dd
  induction dd with
  | zero =>
    intro k x35 hk _ hrb
    have hk' : k = 32 := by omega
    subst hk'
    obtain ⟨hx, hG, d', hd2, w1, w2, w3, w4⟩ := hT
    have hde : d' = d := (nI_eq (by omega) (by omega)).mp (w1.symm.trans hdd)
    subst hde
    rw [wL_law_289]
    refine br_t (by decide) ?_
    refine sx_lt ?_
    refine pv_run (R := pv_R rt0 rt1) (T := pv_R st0 st1) (m := m) (L := L) (by omega) hx (by omega) hG ?_
    intro r nd1 es1 ls1 et1 co1 ca1 pc1 ra1 rb1 sp1 mk1 dp1 fc1 fa1 fb1 fm1 sl1 st1' lf1 su1 pg1 ss1 ql1 qs1 qr1 hd1 fl1 ek1 ep1 ev1 er1 m1 nd2 es2 ls2 et2 co2 ca2 pc2 ra2 rb2 sp2 mk2 dp2 fc2 fa2 fb2 fm2 sl2 st2 lf2 su2 pg2 ss2 ql2 qs2 qr2 hd2' fl2 ek2 ep2 ev2 er2 ee1 hes1 hm1 F1 F2
    obtain ⟨rfl, rfl, hx1, _, x1, _, c1⟩ := F1
    obtain ⟨rfl, rfl, hx2, ⟨m2, rfl, hm2, hmm2, hG2⟩, x2, o2, _⟩ := F2
    obtain ⟨p1, p2, p3, p4, p5, p6, p7⟩ := o2 0 (by decide) (by decide)
    have f0 := p7 0 (by decide)
    have f1 := p7 1 (by decide)
    refine sx_lt ?_
    by_cases h128 : m2 ≤ 128
    · refine br_t (nI_le (b := 128) h128 (by decide)) ?_
      have hes2 : es2 = m2 := by omega
      refine sx_reg5 (p := 0) (by decide) ?_
      rcases c1 with ⟨q1, q2, q3⟩ | ⟨d3, g, q1, q2, q3, q4, h1, hg, q5, q6, q7, q8, q9, q10, q11⟩ | ⟨d3, q0, q1, q2, q3, q4, q5, q6, q7, q8⟩
      · have ed : dp2 0 = nI d' := p1.trans (q1.trans hdd)
        have g0 := q3 0 (by decide)
        have g1 := q3 1 (by decide)
        have hc : d' = 0 ∨ d' = 1 ∨ d' = 2 := by omega
        rw [ed]
        refine br_f (by rcases hc with rfl | rfl | rfl <;> decide) ?_
        refine pv_561s hd2 hm2 (by omega) hL ⟨hx2, hG2, d', hd2, ed, p2.trans (q2.trans w2), fun z => ?_, fun z => ?_⟩ HJ
        · obtain ⟨v0, v1, v2, v3, v4, v5⟩ := w3 z
          exact ⟨v0, f0.1.trans (g0.1.trans v1), f0.2.1.trans (g0.2.1.trans v2), f0.2.2.1.trans (g0.2.2.1.trans v3), f0.2.2.2.trans (g0.2.2.2.trans v4), v5⟩
        · obtain ⟨v0, v1, v2, v3, v4, v5⟩ := w4 z
          exact ⟨v0, f1.1.trans (g1.1.trans v1), f1.2.1.trans (g1.2.1.trans v2), f1.2.2.1.trans (g1.2.2.1.trans v3), f1.2.2.2.trans (g1.2.2.2.trans v4), v5⟩
      · have hn2 := hx.1.2
        have e3 : d3 = d' := (nI_eq (by omega) (by omega)).mp (q1.symm.trans hdd)
        subst e3
        have em1 : m1 = m + 1 := (nI_eq (by omega) (by omega)).mp (ee1.symm.trans q11)
        have ed : dp2 0 = nI (d3 + 1) := p1.trans q3
        obtain ⟨k1, k2, k3⟩ := q10 (by omega)
        obtain ⟨j1, j2, j3, j4⟩ := x2 m (by omega)
        rw [ed]
        refine br_t (nI_1 d3).symm (br_f (nI_pos (by omega)) (br_f (nI_ge (b := 2) (by omega) (by decide)) ?_))
        refine sx_stored h128 ?_
        refine pv_389 (j := m) (m2 := m2) (g := g) (by omega) h128 hes2 h1 hg (j1.trans k1) (j2.trans k2) (j3.trans k3) ?_
        refine pv_437 (sl' := sl) (pc' := pc) (ra' := ra) (fl' := fl) (by omega) h1 hg hm2 (by omega) hL hrb rfl rfl rfl (fun c a ec ea => ⟨fun z => ?_, fun z => ?_⟩) HJ
        · subst z
          refine ⟨hx2, hG2, 1, by decide, ed, ?_, fun _ => ⟨by decide, ?_, ?_, ?_, ?_, w2⟩, fun z => ?_⟩
          · rw [p2, q4, w2]; decide
          · exact f0.1.trans (q5.trans ec.symm)
          · exact f0.2.1.trans (q6.trans ea.symm)
          · exact f0.2.2.1.trans q7
          · exact f0.2.2.2.trans q8
          · exact absurd (w4 z).1 (by decide)
        · subst z
          have g0 := q9 0 (by decide) (by decide)
          refine ⟨hx2, hG2, 2, by decide, ed, ?_, fun z => ?_, fun _ => ⟨by decide, ?_, ?_, ?_, ?_, w2⟩⟩
          · rw [p2, q4, w2]; decide
          · obtain ⟨v0, v1, v2, v3, v4, v5⟩ := w3 z
            exact ⟨by decide, f0.1.trans (g0.1.trans v1), f0.2.1.trans (g0.2.1.trans v2), f0.2.2.1.trans (g0.2.2.1.trans v3), f0.2.2.2.trans (g0.2.2.2.trans v4), v5⟩
          · exact f1.1.trans (q5.trans ec.symm)
          · exact f1.2.1.trans (q6.trans ea.symm)
          · exact f1.2.2.1.trans q7
          · exact f1.2.2.2.trans q8
      · have hb : d3 + 1 = d' := (nI_eq (by omega) (by omega)).mp (q1.symm.trans hdd)
        subst hb
        have ed : dp2 0 = nI d3 := p1.trans q2
        have hc : d3 = 0 ∨ d3 = 1 := by omega
        have g0 := q8 0 (by decide)
        have g1 := q8 1 (by decide)
        rw [ed]
        refine br_f (by rcases hc with rfl | rfl <;> decide) ?_
        refine pv_561p (by omega) hm2 (by omega) hL (fun z => ?_) (fun z => ?_) (fun z y => ?_) (fun z y => ?_) HJ
        · subst z
          refine ⟨hx2, hG2, 0, by decide, ed, ?_, fun z => absurd rfl z, fun z => absurd (w4 z).1 (by decide)⟩
          rw [p2, q3, w2]; decide
        · subst z
          refine ⟨hx2, hG2, 1, by decide, ed, ?_, fun z => ?_, fun z => absurd rfl z⟩
          · rw [p2, q3, w2]; decide
          · obtain ⟨v0, v1, v2, v3, v4, v5⟩ := w3 z
            exact ⟨by decide, f0.1.trans (g0.1.trans v1), f0.2.1.trans (g0.2.1.trans v2), f0.2.2.1.trans (g0.2.2.1.trans v3), f0.2.2.2.trans (g0.2.2.2.trans v4), v5⟩
        · subst z
          obtain ⟨v0, v1, v2, v3, v4, v5⟩ := w3 y
          refine ⟨p3.trans (q4.trans v1), p4.trans (q5.trans v2), p5.trans (q6.trans v3), p6.trans (q7.trans v4), ?_⟩
          rw [p2, q3, w2, v5]; decide
        · subst z
          obtain ⟨v0, v1, v2, v3, v4, v5⟩ := w4 y
          refine ⟨p3.trans (q4.trans v1), p4.trans (q5.trans v2), p5.trans (q6.trans v3), p6.trans (q7.trans v4), ?_⟩
          rw [p2, q3, w2, v5]; decide
    · exact br_f (nI_ge (a := 128) (by omega) (by omega)) rfl
  | succ dd ih =>
    intro k x35 hk h1 hrb
    rw [wL_law_289]
    refine br_f (nI_ge (b := 32) (by omega) (by decide)) ?_
    refine sx_ga (p := 0) (by decide) h1 (by omega) ?_
    refine br_c (fun z => nm_r (nI_1 k) (ih (k + 1) x35 (by omega) (by omega) (pv_rb_s hrb z))) fun z => nm_e (nm_r (nI_1 k) (ih (k + 1) _ (by omega) (by omega) (pv_rb_t h1 (by omega) hrb z)))
end
end
section
theorem pv_cell {post : Int32 → Prop} {N j : Nat} {xs : Nat → Int32} {x : Int32} (hx : x = nI j) (hj : j < 1000) (hN : N ≤ 260) (h : ∀ v, post v) : wpL_cell post N xs () x := by
  subst hx
  refine br_c (fun _ => h 0) fun z => ⟨vp_in_nI ?_ (by omega), h _⟩
  rcases Nat.lt_or_ge j N with y | y
  · exact y
  · exact absurd (nI_le y (by omega)) z
theorem pv_155 {N : Nat} {xs : Nat → Int32} {kc ks : Nat} (hN : N ≤ 260) : ∀ (k i : Nat) (rt0 st0 rt1 st1 : Int64) (y10 y11 y12 y13 y14 y15 y16 y17 y18 y19 y20 y21 : Int32) (L m nd : Nat) (co ca pc ra rb sp mk dp fc fa fb fm sl st lf su pg ss ql qs qr hd fl ek ep ev er : Nat → Int32), N ≤ i + 3 * k → i ≤ 500 → m ≤ 128 → L ≤ 63 → pv_T nd L m rt0 st0 rt1 st1 y10 y11 y12 y13 y14 y15 y16 y17 y18 y19 y20 y21 co dp sp fc fa fb fm lf pg ss ql qs qr hd ek ep ev er → wL_law_155 (fun r => r = 1) N xs kc ks (k + 1) rt0 st0 rt1 st1 y10 y11 y12 y13 y14 y15 y16 y17 y18 y19 y20 y21 (nI i) (nI 2) (nI nd) (nI L) (nI m) (nI m) co ca pc ra rb sp mk dp fc fa fb fm sl st lf su pg ss ql qs qr hd fl ek ep ev er := by
  intro k
  induction k with
  | zero =>
    intro i rt0 st0 rt1 st1 y10 y11 y12 y13 y14 y15 y16 y17 y18 y19 y20 y21 L m nd co ca pc ra rb sp mk dp fc fa fb fm sl st lf su pg ss ql qs qr hd fl ek ep ev er hi _ hm hL hT
    rw [wL_law_155]
    exact br_t (nI_le (a := N) (by omega) (by omega)) rfl
  | succ k ih =>
    intro i rt0 st0 rt1 st1 y10 y11 y12 y13 y14 y15 y16 y17 y18 y19 y20 y21 L m nd co ca pc ra rb sp mk dp fc fa fb fm sl st lf su pg ss ql qs qr hd fl ek ep ev er hi hi5 hm hL hT
    by_cases hNi : N ≤ i
    · rw [wL_law_155]
      exact br_t (nI_le (a := N) hNi (by omega)) rfl
    · have HJ := fun {rt0 st0 rt1 st1 : Int64} {y10 y11 y12 y13 y14 y15 y16 y17 y18 y19 y20 y21 : Int32} {L9 m9 nd9 : Nat} {co9 ca9 pc9 ra9 rb9 sp9 mk9 dp9 fc9 fa9 fb9 fm9 sl9 st9 lf9 su9 pg9 ss9 ql9 qs9 qr9 hd9 fl9 ek9 ep9 ev9 er9 : Nat → Int32} (a : m9 ≤ 128) (b : L9 ≤ 63) (c : pv_T nd9 L9 m9 rt0 st0 rt1 st1 y10 y11 y12 y13 y14 y15 y16 y17 y18 y19 y20 y21 co9 dp9 sp9 fc9 fa9 fb9 fm9 lf9 pg9 ss9 ql9 qs9 qr9 hd9 ek9 ep9 ev9 er9) => ih (i + 3) rt0 st0 rt1 st1 y10 y11 y12 y13 y14 y15 y16 y17 y18 y19 y20 y21 L9 m9 nd9 co9 ca9 pc9 ra9 rb9 sp9 mk9 dp9 fc9 fa9 fb9 fm9 sl9 st9 lf9 su9 pg9 ss9 ql9 qs9 qr9 hd9 fl9 ek9 ep9 ev9 er9 (by omega) (by omega) a b c
      rw [wL_law_155]
      refine br_f (fun z => hNi ((nI_leI (a := N) (by omega) (by omega)).mp z)) ?_
      refine sx_lt ?_
      refine br_t (nI_le (b := 128) hm (by decide)) ?_
      refine pv_cell (j := i) rfl (by omega) hN fun r98 => ?_
      refine pv_cell (j := i + 1) (nI_1 i) (by omega) hN fun r99 => ?_
      obtain ⟨a, ha, ea⟩ := pk_andE r99 (m := 2147483647) 31 (by decide)
      refine nm_r ea ?_
      refine pv_cell (j := i + 2) (nI_add i 2) (by omega) hN fun r101 => ?_
      obtain ⟨p, hp, ep'⟩ := pk_andE (r98 >>> ((3 : Int32) &&& 31)) (m := 1) 1 (by decide)
      refine nm_e (nm_r ep' ?_)
      refine br_c (fun _ => br_c (fun _ => br_c (fun _ => pv_927 hp hm hL hT HJ) fun _ => br_c (fun _ => pv_927 hp hm hL hT HJ) fun _ => pv_927 hp hm hL hT HJ) fun _ => br_c (fun _ => ⟨by decide, ?_⟩) fun _ => ?_) fun _ => ?_
      · have e15 : nI a - nI a / 15 * 15 = nI (a % 15) := pk_rem (d := 15) ha (by decide) (by decide)
        rw [e15, show (1 : Int32) + nI (a % 15) = nI (1 + a % 15) from nI_add 1 _]
        exact pv_789 hp (by omega) (by omega) hm hL hT HJ
      · obtain ⟨b, hb, eb⟩ := pk_andE (nI a) (m := 15) 4 (by decide)
        rw [eb, show (16 : Int32) + nI b = nI (16 + b) from nI_add 16 b]
        exact pv_789 hp (by omega) (by omega) hm hL hT HJ
      · obtain ⟨d, hd2, w1, _⟩ := hT.2.2
        refine sx_reg5 (p := 0) (by decide) ?_
        refine sx_reg0 (p := 0) (by decide) ?_
        refine sx_reg1 (p := 0) (by decide) ?_
        refine sx_reg2 (p := 0) (by decide) ?_
        refine sx_reg4 (p := 0) (by decide) ?_
        refine sx_reg3 (p := 0) (by decide) ?_
        refine sx_reg6 (p := 0) (by decide) ?_
        rw [w1]
        refine ⟨32, pv_289 hd2 hm hL w1 hT HJ 31 1 0 (by omega) (by omega) fun g hg => ?_⟩
        rw [b_0]
        exact ⟨fun z => absurd z (by decide), fun z => by omega⟩
theorem pv_ops : ∀ t, t < 16 → ¬ ((((601743931843222441 : Int64).toUInt64 >>> ((4 * nI t).toInt64.toUInt64 &&& Int64.toUInt64 63)).toInt64) &&& 15).toInt32 = 6 := by decide +kernel
theorem pv_arg {post : Int32 → Prop} {a b c : Int32} (h : ∀ v, post v) : wpL_argFor post () a b c :=
  br_c (fun _ => br_c (fun _ => h _) fun _ => h _) fun _ => br_c (fun _ => h _) fun _ => br_c (fun _ => h _) fun _ => br_c (fun _ => h _) fun _ => br_c (fun _ => h _) fun _ => br_c (fun _ => h _) fun _ => br_c (fun _ => h _) fun _ => br_c (fun _ => h _) fun _ => h _
section
variable {nd es : Nat} {ls et : Int32} {co ca pc ra rb sp mk dp fc fa fb fm sl st lf su pg ss ql qs qr hd fl ek ep ev er : Nat → Int32}
variable {N : Nat} {xs : Nat → Int32} {kc ks : Nat}
theorem pv_poke {post : Int32 → St2 → Prop} {p c : Nat} {x y : Int32} (hp : p < 2) (hc : c < 32) (hx : ¬ x = 6) (h6 : ∀ j, ¬ co j = 6) (K : ∀ (r : Int32) {co1 ca1 : Nat → Int32}, (∀ j, ¬ co1 j = 6) → post r (nI 2, nI nd, ls, et, nI es, co1, ca1, pc, ra, rb, sp, mk, dp, fc, fa, fb, fm, sl, st, lf, su, pg, ss, ql, qs, qr, hd, fl, ek, ep, ev, er)) : wpX_poke post (nI 2, nI nd, ls, et, nI es, co, ca, pc, ra, rb, sp, mk, dp, fc, fa, fb, fm, sl, st, lf, su, pg, ss, ql, qs, qr, hd, fl, ek, ep, ev, er) (nI p) (nI c) x y := by
  have e3 : vp_in (nI (p * 32 + c)) 128 := vp_in_nI (by omega) (by decide)
  have e4 : (nI (p * 32 + c)).toNatClampNeg = p * 32 + c := nI_clamp (by omega)
  unfold wpX_poke
  refine sx_pid1 (np := 2) hp (by decide) ?_
  refine br_f (by decide) ?_
  refine sx_cell1 hc ?_
  refine br_f (by decide) (br_c (fun _ => K _ h6) fun _ => br_c (fun _ => ?_) fun _ => K _ h6)
  simp only [sk_ix32, e3, e4, true_implies, false_implies, not_true_eq_false, not_false_eq_true, and_true, true_and, forall_eq, implies_true]
  refine K _ fun j => ?_
  by_cases e : j = p * 32 + c
  · rw [e, pk_us]; exact hx
  · rw [pk_un e]; exact h6 j
theorem pv_27 {J : Int32 → Int32 → Int32 → Int32 → Int32 → Int32 → (Nat → Int32) → (Nat → Int32) → (Nat → Int32) → (Nat → Int32) → (Nat → Int32) → (Nat → Int32) → (Nat → Int32) → (Nat → Int32) → (Nat → Int32) → (Nat → Int32) → (Nat → Int32) → (Nat → Int32) → (Nat → Int32) → (Nat → Int32) → (Nat → Int32) → (Nat → Int32) → (Nat → Int32) → (Nat → Int32) → (Nat → Int32) → (Nat → Int32) → (Nat → Int32) → (Nat → Int32) → (Nat → Int32) → (Nat → Int32) → (Nat → Int32) → (Nat → Int32) → (Nat → Int32) → Prop} {p : Nat} (hN : N ≤ 260) (hp : p < 2) (H : ∀ {co1 ca1 : Nat → Int32}, (∀ j, ¬ co1 j = 6) → J (nI (p + 1)) (nI 2) (nI nd) ls et (nI es) co1 ca1 pc ra rb sp mk dp fc fa fb fm sl st lf su pg ss ql qs qr hd fl ek ep ev er) : ∀ (d a : Nat) (co ca : Nat → Int32), a + d = 16 → (∀ j, ¬ co j = 6) → wL_law_27 (fun r => r = 1) N xs J (nI p) kc ks (d + 1) (nI a) (nI 2) (nI nd) ls et (nI es) co ca pc ra rb sp mk dp fc fa fb fm sl st lf su pg ss ql qs qr hd fl ek ep ev er := by
  intro d
  induction d with
  | zero =>
    intro a co ca ha h6
    have ha' : a = 16 := by omega
    subst ha'
    rw [wL_law_27]
    exact br_t (by decide) (nm_r (nI_1 p) (H h6))
  | succ d ih =>
    intro a co ca ha h6
    rw [wL_law_27]
    refine br_f (nI_ge (b := 16) (by omega) (by decide)) ?_
    have ei : (1 : Int32) + nI p * 16 + nI a = nI (1 + p * 16 + a) := by
      show nI 1 + nI p * nI 16 + nI a = _
      rw [pk_mul, nI_add, nI_add]
    refine pv_cell (j := 1 + p * 16 + a) ei (by omega) hN fun r => ?_
    obtain ⟨t, ht, et'⟩ := pk_andE r (m := 15) 4 (by decide)
    refine nm_r et' (nm_e ?_)
    refine pv_arg fun v => ?_
    refine pv_poke hp (by omega) (pv_ops t ht) h6 (fun r => ?_)
    intro co1 ca1 h6'
    exact nm_r (nI_1 a) (ih (a + 1) co1 ca1 (by omega) h6')
end
def sk_fill (f : Nat → Int32) (x : Int32) : Nat → Nat → Int32
  | 0 => f
  | n + 1 => upd (sk_fill f x n) n x
theorem sk_fill_HD : ∀ n, sk_HD (sk_fill (fun _ => 0) (-1) n) := by
  intro n
  induction n with
  | zero => exact fun _ => Or.inr (Or.inr (by show (0 : Int32) ≤ 0; decide))
  | succ n ih => exact sk_HD_u ih (Or.inr (Or.inl rfl))
theorem pv_A0 {p : Nat} {al : Prop} {gq sq sp ek ep ev er : Nat → Int32} : pv_A 0 0 al 0 gq sq 0 sp ek ep ev er (pv_B 0) (pv_B 0) p :=
  ⟨⟨fun s h => absurd h (pv_B_0 s), fun s h => absurd h (pv_B_0 s), fun s h => absurd h (pv_B_0 s)⟩, ⟨fun j hj => absurd hj (by omega), fun i j a b _ hj => absurd hj (by omega)⟩, ⟨fun g _ _ c => absurd c (by rw [b_0]; decide), fun g g' _ _ _ _ _ c => absurd c (by rw [b_0]; decide)⟩, ⟨fun s h => h.elim (fun h => absurd h (pv_B_0 s)) (fun h => absurd h (pv_B_0 s)), fun _ s h => absurd h (pv_B_0 s)⟩, ⟨fun i j v a b _ hj => absurd hj (by omega), fun i v a j b hi => absurd hi (by omega)⟩, fun i hi => absurd hi (by omega)⟩
theorem pv_T0 {nd : Nat} {co1 : Nat → Int32} (h1 : 1 ≤ nd) (h2 : nd ≤ 2) (h6 : ∀ j, ¬ co1 j = 6) : pv_T nd 0 0 0 0 0 0 0 0 0 0 0 0 0 0 0 0 0 0 co1 (fun _ => 0) (sk_fill (fun _ => 0) 64 4) (fun _ => 0) (fun _ => 0) (fun _ => 0) (fun _ => 0) (fun _ => 0) (fun _ => 0) (fun _ => 0) (fun _ => 0) (fun _ => 0) (fun _ => 0) (sk_fill (fun _ => 0) (-1) 128) (fun _ => 0) (fun _ => 0) (fun _ => 0) (fun _ => 0) := by
  refine ⟨⟨⟨h1, h2⟩, h6, fun _ _ => ⟨0, by omega, nI_0.symm⟩, fun _ _ => ⟨0, by omega, nI_0.symm, fun j hj => by omega⟩, sk_fill_HD 128⟩, fun _ => ⟨fun p hp => ?_, fun i hi => absurd hi (by omega)⟩, 0, by decide, nI_0.symm, by rfl, fun z => absurd rfl z, fun z => absurd rfl z⟩
  have hc : p = 0 ∨ p = 1 := by omega
  rcases hc with rfl | rfl
  · exact ⟨0, ⟨nI_0.symm, Or.inl rfl⟩, by omega, pv_A0⟩
  · exact ⟨0, ⟨nI_0.symm, Or.inl rfl⟩, by omega, pv_A0⟩
section
variable {nd es : Nat} {ls et : Int32} {co ca pc ra rb sp mk dp fc fa fb fm sl st lf su pg ss ql qs qr hd fl ek ep ev er : Nat → Int32}
variable {mc ms kc ks : Nat}
theorem sx_i274 {post : St2 → Prop} {f : Nat → Int32} (h : post (nI 2, nI nd, ls, et, nI es, co, ca, pc, ra, rb, sp, mk, dp, fc, fa, fb, fm, sl, st, lf, su, pg, ss, ql, qs, qr, sk_fill f (-1) 128, fl, ek, ep, ev, er)) : ∀ d i, i + d = 128 → wX_init_274 post mc ms kc ks (nI 2) (nI nd) ls et (nI es) (d + 1) (nI i) co ca pc ra rb sp mk dp fc fa fb fm sl st lf su pg ss ql qs qr (sk_fill f (-1) i) fl ek ep ev er := by
  intro d
  induction d with
  | zero =>
    intro i hi
    have hi' : i = 128 := by omega
    subst hi'
    rw [wX_init_274]
    exact br_t (by decide) h
  | succ d ih =>
    intro i hi
    have z : ¬ (128 : Int32) ≤ nI i := nI_ge (b := 128) (by omega) (by decide)
    rw [wX_init_274]
    refine br_f z ⟨vp_in_nI (by omega) (by decide), nm_r (by rw [nI_clamp (by omega)]) (nm_r (nI_1 i) ?_)⟩
    exact ih (i + 1) (by omega)
theorem sx_i253 {post : St2 → Prop} {f g : Nat → Int32} (h : post (nI 2, nI nd, ls, et, nI es, co, ca, pc, ra, rb, sk_fill g 64 4, mk, dp, fc, fa, fb, fm, sl, st, lf, su, pg, ss, ql, qs, qr, sk_fill f (-1) 128, fl, ek, ep, ev, er)) : ∀ d i, i + d = 4 → wX_init_253 post mc ms kc ks (nI 2) (nI nd) ls et (nI es) (d + 1) (nI i) co ca pc ra rb (sk_fill g 64 i) mk dp fc fa fb fm sl st lf su pg ss ql qs qr f fl ek ep ev er := by
  intro d
  induction d with
  | zero =>
    intro i hi
    have hi' : i = 4 := by omega
    subst hi'
    rw [wX_init_253]
    exact br_t (by decide) ⟨129, sx_i274 h 128 0 rfl⟩
  | succ d ih =>
    intro i hi
    have z : ¬ (4 : Int32) ≤ nI i := nI_ge (b := 4) (by omega) (by decide)
    rw [wX_init_253]
    refine br_f z ⟨vp_in_nI (by omega) (by decide), nm_r (by rw [nI_clamp (by omega)]) (nm_r (nI_1 i) ?_)⟩
    exact ih (i + 1) (by omega)
end
theorem pv_20 {N : Nat} {xs : Nat → Int32} {kc ks nd : Nat} (hN : N ≤ 260) (h1 : 1 ≤ nd) (h2 : nd ≤ 2) : ∃ fu20, wL_law_20 (fun r => r = 1) N xs kc ks fu20 0 (nI 2) (nI nd) (nI 0) (nI 0) (nI 0) (fun _ => 0) (fun _ => 0) (fun _ => 0) (fun _ => 0) (fun _ => 0) (sk_fill (fun _ => 0) 64 4) (fun _ => 0) (fun _ => 0) (fun _ => 0) (fun _ => 0) (fun _ => 0) (fun _ => 0) (fun _ => 0) (fun _ => 0) (fun _ => 0) (fun _ => 0) (fun _ => 0) (fun _ => 0) (fun _ => 0) (fun _ => 0) (fun _ => 0) (sk_fill (fun _ => 0) (-1) 128) (fun _ => 0) (fun _ => 0) (fun _ => 0) (fun _ => 0) (fun _ => 0) := by
  refine ⟨3, ?_⟩
  rw [wL_law_20]
  refine br_f (by decide) ⟨17, pv_27 (p := 0) (es := 0) (et := nI 0) (ls := nI 0) hN (by decide) ?_ 16 0 _ _ (by decide) (fun _ => by show ¬ (0 : Int32) = 6; decide)⟩
  intro co1 ca1 h6
  rw [wL_law_20]
  refine br_f (by decide) ⟨17, pv_27 (p := 1) (es := 0) (et := nI 0) (ls := nI 0) hN (by decide) ?_ 16 0 _ _ (by decide) h6⟩
  intro co2 ca2 h6'
  rw [wL_law_20]
  refine br_t (by decide) ⟨81, ?_⟩
  exact pv_155 hN 80 33 0 0 0 0 0 0 0 0 0 0 0 0 0 0 0 0 0 0 nd co2 ca2 (fun _ => 0) (fun _ => 0) (fun _ => 0) (sk_fill (fun _ => 0) 64 4) (fun _ => 0) (fun _ => 0) (fun _ => 0) (fun _ => 0) (fun _ => 0) (fun _ => 0) (fun _ => 0) (fun _ => 0) (fun _ => 0) (fun _ => 0) (fun _ => 0) (fun _ => 0) (fun _ => 0) (fun _ => 0) (fun _ => 0) (sk_fill (fun _ => 0) (-1) 128) (fun _ => 0) (fun _ => 0) (fun _ => 0) (fun _ => 0) (fun _ => 0) (by omega) (by decide) (by decide) (by decide) (pv_T0 h1 h2 h6')
end
section
theorem i_vc (xs : Nat → Int32) (L : Nat) (hL : L ≤ 260) : wpL_law (fun r => r = 1) L xs := by
  unfold wpL_law
  refine pv_cell (j := 0) rfl (by decide) hL fun r => ?_
  refine ⟨27, 1264, by decide, by decide, ?_⟩
  obtain ⟨t, ht, et⟩ := pk_andE r (m := 1) 1 (by decide)
  rw [et, show (1 : Int32) + nI t = nI (1 + t) from nI_add 1 t]
  have h2 : ∀ post : Int32 → Prop, post (nI 2) → wpX_clamp post () 2 1 4 := fun post h => br_t (by decide) (br_t (by decide) h)
  have h3 : ∀ post : Int32 → Prop, post (nI (1 + t)) → wpX_clamp post () (nI (1 + t)) 1 4 := fun post h => br_t (nI_le (a := 1) (by omega) (by omega)) (br_t (nI_le (b := 4) (by omega) (by decide)) h)
  unfold wpX_init
  refine ⟨by decide, by decide, by decide, by decide, by decide, by decide, by decide, by decide, by decide, by decide, by decide, by decide, by decide, by decide, by decide, by decide, by decide, by decide, by decide, by decide, by decide, by decide, by decide, by decide, by decide, by decide, by decide, by decide, by decide, by decide, by decide, by decide, by decide, by decide, by decide, by decide, by decide, by decide, by decide, by decide, by decide, by decide, by decide, by decide, by decide, by decide, by decide, by decide, by decide, by decide, by decide, by decide, by decide, by decide, ?_⟩
  refine h2 _ ?_
  refine h3 _ ?_
  refine ⟨5, sx_i253 (nd := 1 + t) (es := 0) (ls := nI 0) (et := nI 0) ?_ 4 0 rfl⟩
  exact pv_20 hL (by omega) (by omega)
end
