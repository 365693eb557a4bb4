/-! how like two boxes are: pairs of boxes within them, in order -/
def mxI (x y : Int32) : Int32 := if x < y then y else x
def mx3 (x one two : Int32) : Int32 := mxI x (mxI one two)
theorem mx3_m (x one two : Int32) : (if (if one < x then x else one) < two then two else (if one < x then x else one)) = mx3 x one two := by
  unfold mx3 mxI
  have e : ∀ a b : Int32, (a < b) = (a.toInt < b.toInt) := fun a b => propext Int32.lt_iff_toInt_lt
  simp only [e]
  have ex : ∀ a b : Int32, a.toInt = b.toInt → a = b := fun a b h => Int32.toInt_inj.mp h
  by_cases c1 : one.toInt < x.toInt <;> by_cases c2 : one.toInt < two.toInt <;> by_cases c3 : x.toInt < two.toInt <;> by_cases c4 : x.toInt < one.toInt <;> simp only [c1, c2, c3, c4, if_true, if_false] <;> (first | rfl | (exfalso; omega) | (refine ex _ _ ?_; omega))
/-- a row more -/
def dqE (AL : Nat → Nat → Int32) (Q : Nat → Bool) (c : Nat) (prev : Nat → Int32) : Nat → Int32
  | 0 => 0
  | d + 1 => if Q d = true then mx3 (prev d + AL c d) (prev (d + 1)) (dqE AL Q c prev d) else dqE AL Q c prev d
def dq (P Q : Nat → Bool) (AL : Nat → Nat → Int32) : Nat → Nat → Int32
  | 0 => fun _ => 0
  | c + 1 => if P c = true then dqE AL Q c (dq P Q AL c) else dq P Q AL c
theorem dqE_st (AL : Nat → Nat → Int32) (Q : Nat → Bool) (c : Nat) (prev : Nat → Int32) (d : Nat) : dqE AL Q c prev (d + 1) = if Q d = true then mx3 (prev d + AL c d) (prev (d + 1)) (dqE AL Q c prev d) else dqE AL Q c prev d := rfl
theorem dq_st (P Q : Nat → Bool) (AL : Nat → Nat → Int32) (c : Nat) : dq P Q AL (c + 1) = if P c = true then dqE AL Q c (dq P Q AL c) else dq P Q AL c := rfl
theorem dq_z (P Q : Nat → Bool) (AL : Nat → Nat → Int32) (d : Nat) : dq P Q AL 0 d = 0 := rfl
theorem dqE_z (AL : Nat → Nat → Int32) (Q : Nat → Bool) (c : Nat) (prev : Nat → Int32) : dqE AL Q c prev 0 = 0 := rfl
theorem dq_0 (P Q : Nat → Bool) (AL : Nat → Nat → Int32) (c : Nat) : dq P Q AL c 0 = 0 := by
  induction c with
  | zero => rfl
  | succ c ih =>
    rw [dq_st]
    split
    · rfl
    · exact ih
theorem dq_fl1 (P Q : Nat → Bool) (AL : Nat → Nat → Int32) {c c' : Nat} (h : c ≤ c') (e : cnt P c = cnt P c') : dq P Q AL c = dq P Q AL c' := by
  induction c' with
  | zero => rw [Nat.le_zero.mp h]
  | succ c' ih =>
    rcases Nat.lt_or_ge c (c' + 1) with q | q
    · have h1 : cnt P c ≤ cnt P c' := cnt_lt_mono P (by omega)
      rw [cnt_st] at e
      have hp : ¬ P c' = true := fun z => by rw [if_pos z] at e; omega
      rw [if_neg hp] at e
      rw [dq_st, if_neg hp]
      exact ih (by omega) e
    · rw [Nat.le_antisymm h q]
theorem dq_flat1 (P Q : Nat → Bool) (AL : Nat → Nat → Int32) {c c' : Nat} (e : cnt P c = cnt P c') : dq P Q AL c = dq P Q AL c' := by
  rcases Nat.le_total c c' with h | h
  · exact dq_fl1 P Q AL h e
  · exact (dq_fl1 P Q AL h e.symm).symm
theorem dq_nq (P Q : Nat → Bool) (AL : Nat → Nat → Int32) (c : Nat) {d : Nat} (h : ¬ Q d = true) : dq P Q AL c (d + 1) = dq P Q AL c d := by
  induction c with
  | zero => rfl
  | succ c ih =>
    rw [dq_st]
    split
    · rw [dqE_st, if_neg h]
    · exact ih
theorem dq_fl2 (P Q : Nat → Bool) (AL : Nat → Nat → Int32) (c : Nat) {d d' : Nat} (h : d ≤ d') (e : cnt Q d = cnt Q d') : dq P Q AL c d = dq P Q AL c d' := by
  induction d' with
  | zero => rw [Nat.le_zero.mp h]
  | succ d' ih =>
    rcases Nat.lt_or_ge d (d' + 1) with q | q
    · have h1 : cnt Q d ≤ cnt Q d' := cnt_lt_mono Q (by omega)
      rw [cnt_st] at e
      have hp : ¬ Q d' = true := fun z => by rw [if_pos z] at e; omega
      rw [if_neg hp] at e
      rw [dq_nq _ _ _ _ hp]
      exact ih (by omega) e
    · rw [Nat.le_antisymm h q]
theorem dq_flat2 (P Q : Nat → Bool) (AL : Nat → Nat → Int32) (c : Nat) {d d' : Nat} (e : cnt Q d = cnt Q d') : dq P Q AL c d = dq P Q AL c d' := by
  rcases Nat.le_total d d' with h | h
  · exact dq_fl2 P Q AL c h e
  · exact (dq_fl2 P Q AL c h e.symm).symm
theorem dq_flat (P Q : Nat → Bool) (AL : Nat → Nat → Int32) {c c' d d' : Nat} (e1 : cnt P c = cnt P c') (e2 : cnt Q d = cnt Q d') : dq P Q AL c d = dq P Q AL c' d' := by rw [dq_flat1 P Q AL e1, dq_flat2 P Q AL c' e2]
theorem dqE_congr {Q Q' : Nat → Bool} {AL AL' : Nat → Nat → Int32} {c m : Nat} {f f' : Nat → Int32} (hf : ∀ d, d ≤ m → f d = f' d) (hQ : ∀ d, d < m → Q d = Q' d) (hA : ∀ d, d < m → Q d = true → AL c d = AL' c d) : ∀ d, d ≤ m → dqE AL Q c f d = dqE AL' Q' c f' d := by
  intro d
  induction d with
  | zero => intro _; rw [dqE_z, dqE_z]
  | succ d ih =>
    intro hd
    have e1 := ih (by omega)
    have e2 := hf d (by omega)
    have e3 := hf (d + 1) hd
    have e4 := hQ d (by omega)
    rw [dqE_st, dqE_st, e1, e2, e3]
    by_cases r : Q' d = true
    · have e5 := hA d (by omega) (e4.trans r)
      rw [if_pos (e4.trans r), if_pos r, e5]
    · rw [if_neg (fun z => r (e4.symm.trans z)), if_neg r]
theorem dq_congr {P Q P' Q' : Nat → Bool} {AL AL' : Nat → Nat → Int32} {n m : Nat} (hP : ∀ c, c < n → P c = P' c) (hQ : ∀ d, d < m → Q d = Q' d) (hA : ∀ c d, c < n → d < m → P c = true → Q d = true → AL c d = AL' c d) : ∀ c, c ≤ n → ∀ d, d ≤ m → dq P Q AL c d = dq P' Q' AL' c d := by
  intro c
  induction c with
  | zero => intro _ d _; rw [dq_z, dq_z]
  | succ c ih =>
    intro hc d hd
    have ih := ih (by omega)
    have e4 := hP c (by omega)
    rw [dq_st, dq_st]
    by_cases q : P' c = true
    · rw [if_pos (e4.trans q), if_pos q]
      exact dqE_congr ih hQ (fun d h1 h2 => hA c d (by omega) h1 (e4.trans q) h2) d hd
    · rw [if_neg (fun z => q (e4.symm.trans z)), if_neg q]; exact ih d hd
theorem dq_pq {P Q : Nat → Bool} {AL : Nat → Nat → Int32} {c d : Nat} (hP : P c = true) (hQ : Q d = true) : dq P Q AL (c + 1) (d + 1) = mx3 (dq P Q AL c d + AL c d) (dq P Q AL c (d + 1)) (dq P Q AL (c + 1) d) := by rw [dq_st, if_pos hP, dqE_st, if_pos hQ]
theorem cnt_inv (P : Nat → Bool) {n i : Nat} (h : i < cnt P n) : ∃ c, c < n ∧ P c = true ∧ cnt P c = i := by
  induction n with
  | zero => exact absurd h (Nat.not_lt_zero i)
  | succ n ih =>
    rw [cnt_st] at h
    rcases Nat.lt_or_ge i (cnt P n) with q | q
    · obtain ⟨c, h1, h2⟩ := ih q
      exact ⟨c, by omega, h2⟩
    · by_cases r : P n = true
      · rw [if_pos r] at h
        exact ⟨n, by omega, r, by omega⟩
      · rw [if_neg r] at h; omega
/-- how like boxes a and b of pages p and q are, by how like those within are -/
def lkS (PR KD WD : Nat → Int32) (p q n m : Nat) (AL : Nat → Nat → Int32) (a b : Nat) : Int32 := if KD (24 * p + a) = KD (24 * q + b) then (if WD (24 * p + a) = WD (24 * q + b) then 2 else 1) + dq (fun c => decide (PR (24 * p + c) = nI a)) (fun d => decide (PR (24 * q + d) = nI b)) AL n m else 0
def lkN (PR KD WD : Nat → Int32) (p q n m : Nat) : Nat → Nat → Nat → Int32
  | 0 => fun _ _ => 0
  | f + 1 => fun a b => lkS PR KD WD p q n m (lkN PR KD WD p q n m f) a b
theorem lkS_congr {PR KD WD : Nat → Int32} {p q n m a b : Nat} {AL AL' : Nat → Nat → Int32} (hw : PW PR p n) (hn : n ≤ 24) (ha : a < 24) (h : ∀ c d, a < c → c < n → d < m → AL c d = AL' c d) : lkS PR KD WD p q n m AL a b = lkS PR KD WD p q n m AL' a b := by
  unfold lkS
  rw [dq_congr (fun c _ => rfl) (fun d _ => rfl) (fun c d hc hd hP hQ => ?_) n (Nat.le_refl n) m (Nat.le_refl m)]
  rw [decide_eq_true_eq, par_iff hw hn hc ha] at hP
  have := up_lt hw hP.1 hc
  exact h c d (by omega) hc hd
theorem lkN_fuel {PR KD WD : Nat → Int32} {p q n m : Nat} (hw : PW PR p n) (hn : n ≤ 24) : ∀ f f' a b, a < n → b < m → n - a ≤ f → n - a ≤ f' → lkN PR KD WD p q n m f a b = lkN PR KD WD p q n m f' a b := by
  intro f
  induction f with
  | zero => intro f' a b ha hb h1 h2; omega
  | succ f ih =>
    intro f' a b ha hb h1 h2
    cases f' with
    | zero => omega
    | succ f' =>
      show lkS PR KD WD p q n m (lkN PR KD WD p q n m f) a b = lkS PR KD WD p q n m (lkN PR KD WD p q n m f') a b
      exact lkS_congr hw hn (by omega) (fun c d h3 h4 h5 => ih f' c d h4 h5 (by omega) (by omega))
theorem lkN_rec {PR KD WD : Nat → Int32} {p q n m a b : Nat} (hw : PW PR p n) (hn : n ≤ 24) (ha : a < n) {AL : Nat → Nat → Int32} (h : ∀ c d, a < c → c < n → d < m → AL c d = lkN PR KD WD p q n m 24 c d) : lkS PR KD WD p q n m AL a b = lkN PR KD WD p q n m 24 a b := by
  show _ = lkS PR KD WD p q n m (lkN PR KD WD p q n m 23) a b
  refine lkS_congr hw hn (by omega) (fun c d h1 h2 h3 => ?_)
  rw [h c d h1 h2 h3]
  exact lkN_fuel hw hn 24 23 c d h2 h3 (by omega) (by omega)
/-- how like two pages are -/
def lkV (PR KD WD : Nat → Int32) (p q n m : Nat) : Int32 := lkN PR KD WD p q n m 24 0 0
