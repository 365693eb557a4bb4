/-! unlike words: counted by their first boxes, and by themselves -/
def exB (P : Nat → Bool) : Nat → Bool
  | 0 => false
  | n + 1 => exB P n || P n
theorem exB_iff (P : Nat → Bool) (n : Nat) : exB P n = true ↔ ∃ j, j < n ∧ P j = true := by
  induction n with
  | zero => exact ⟨fun h => (by cases h), fun ⟨j, h, _⟩ => (by omega)⟩
  | succ n ih =>
    rw [exB, Bool.or_eq_true, ih]
    constructor
    · rintro (⟨j, h1, h2⟩ | h)
      · exact ⟨j, by omega, h2⟩
      · exact ⟨n, by omega, h⟩
    · rintro ⟨j, h1, h2⟩
      by_cases q : j = n
      · subst q; exact Or.inr h2
      · exact Or.inl ⟨j, by omega, h2⟩
theorem cnt_ins (Q : Nat → Bool) {k : Nat} (hQ : Q k = false) (m : Nat) : cnt (fun w => Q w || decide (w = k)) m = cnt Q m + (if k < m then 1 else 0) := by
  induction m with
  | zero => rfl
  | succ m ih =>
    rw [cnt_st, cnt_st, ih]
    by_cases e : m = k
    · subst e
      rw [hQ, if_neg (Nat.lt_irrefl m), if_pos (Nat.lt_succ_self m), decide_eq_true rfl]
      simp
    · rw [decide_eq_false e, Bool.or_false]
      by_cases q : k < m
      · rw [if_pos q, if_pos (show k < m + 1 by omega)]; omega
      · rw [if_neg q, if_neg (show ¬ k < m + 1 by omega)]; omega
theorem cnt_none (m : Nat) : cnt (fun _ => false) m = 0 := by
  induction m with
  | zero => rfl
  | succ m ih => rw [cnt_st, ih]; rfl
theorem cnt_bij (P : Nat → Bool) (f : Nat → Nat) (m n : Nat) (hf : ∀ b, b < n → P b = true → f b < m) (hi : ∀ b c, b < n → c < n → P b = true → P c = true → f b = f c → b = c) : cnt P n = cnt (fun w => exB (fun b => P b && decide (f b = w)) n) m := by
  induction n with
  | zero => exact (cnt_none m).symm
  | succ n ih =>
    have ih := ih (fun b h1 h2 => hf b (by omega) h2) (fun b c h1 h2 h3 h4 h5 => hi b c (by omega) (by omega) h3 h4 h5)
    rw [cnt_st, ih]
    cases hP : P n with
    | false =>
      rw [if_neg (by decide), Nat.add_zero]
      refine cnt_congr fun w _ => ?_
      rw [exB, hP, Bool.false_and, Bool.or_false]
    | true =>
      rw [if_pos rfl]
      have hk := hf n (by omega) hP
      have hQ : exB (fun b => P b && decide (f b = f n)) n = false := by
        cases h : exB (fun b => P b && decide (f b = f n)) n with
        | false => rfl
        | true =>
          obtain ⟨j, h1, h2⟩ := (exB_iff _ _).mp h
          rw [Bool.and_eq_true, decide_eq_true_eq] at h2
          have := hi j n (by omega) (by omega) h2.1 hP h2.2
          omega
      have e : cnt (fun w => exB (fun b => P b && decide (f b = w)) (n + 1)) m = cnt (fun w => exB (fun b => P b && decide (f b = w)) n || decide (w = f n)) m := cnt_congr fun w _ => by
        rw [exB, hP, Bool.true_and]
        congr 1
        by_cases q : f n = w
        · rw [decide_eq_true q, decide_eq_true q.symm]
        · rw [decide_eq_false q, decide_eq_false (fun z => q z.symm)]
      rw [e, cnt_ins (fun w => exB (fun b => P b && decide (f b = w)) n) hQ, if_pos hk]
theorem cnt_pos {P : Nat → Bool} {n : Nat} : 0 < cnt P n ↔ ∃ j, j < n ∧ P j = true := by
  induction n with
  | zero => exact ⟨fun h => absurd h (Nat.lt_irrefl 0), fun ⟨j, h, _⟩ => (by omega)⟩
  | succ n ih =>
    rw [cnt_st]
    constructor
    · intro h
      by_cases q : P n = true
      · exact ⟨n, by omega, q⟩
      · rw [if_neg q, Nat.add_zero] at h
        obtain ⟨j, h1, h2⟩ := ih.mp h
        exact ⟨j, by omega, h2⟩
    · rintro ⟨j, h1, h2⟩
      by_cases q : j = n
      · subst q; rw [if_pos h2]; omega
      · have := ih.mpr ⟨j, by omega, h2⟩; omega
theorem oft_pos {WD : Nat → Int32} {p n w : Nat} {s : Int32} : 0 < oft WD p s n w ↔ ∃ b, b < n ∧ bt s b = true ∧ WD (24 * p + b) = nI w := by
  unfold oft
  rw [cnt_pos]
  exact ⟨fun ⟨j, h1, h2⟩ => by rw [Bool.and_eq_true, decide_eq_true_eq] at h2; exact ⟨j, h1, h2⟩, fun ⟨j, h1, h2⟩ => ⟨j, h1, by rw [Bool.and_eq_true, decide_eq_true_eq]; exact h2⟩⟩
def wdN (WD : Nat → Int32) (p b : Nat) : Nat := (WD (24 * p + b)).toNatClampNeg
theorem fal_sp (WD : Nat → Int32) (p b : Nat) : fal WD p b ≤ b ∧ WD (24 * p + fal WD p b) = WD (24 * p + b) ∧ ∀ c, c < fal WD p b → ¬ WD (24 * p + c) = WD (24 * p + b) := by
  unfold fal
  cases h : fst (fun c => decide (WD (24 * p + c) = WD (24 * p + b))) b 0 with
  | none =>
    dsimp only
    refine ⟨Nat.le_refl b, rfl, fun c hc => ?_⟩
    have := fst_none _ _ h c (Nat.zero_le c) (by omega)
    simpa using this
  | some i =>
    obtain ⟨_, h2, h3, h4⟩ := fst_some _ _ _ h
    dsimp only
    refine ⟨by omega, of_decide_eq_true h3, fun c hc => ?_⟩
    have := h4 c (Nat.zero_le c) hc
    simpa using this
section wordp
variable {WD : Nat → Int32} {p n : Nat} {s : Int32}
theorem b_sw (hn : n ≤ 24) (s : Int32) (b : Nat) : bt (s &&& mk (wordM WD p) n) b = true ↔ (bt s b = true ∧ b < n ∧ ¬ WD (24 * p + b) = -1) := by
  rw [b_and, Bool.and_eq_true, b_mk _ (by omega), Bool.and_eq_true, decide_eq_true_eq]
  unfold wordM
  rw [decide_eq_true_eq]
theorem b_ulw (hn : n ≤ 24) (i : Nat) : bt (ulw WD p n s) i = true ↔ ∃ b, b < n ∧ bt s b = true ∧ ¬ WD (24 * p + b) = -1 ∧ fal WD p b = i := by
  unfold ulw
  rw [b_orU]
  constructor
  · rintro ⟨b, h1, h2, h3⟩
    obtain ⟨g1, g2, g3⟩ := (b_sw hn s b).mp h2
    have := (fal_sp WD p b).1
    rw [b_sb (by omega), decide_eq_true_eq] at h3
    exact ⟨b, h1, g1, g3, h3.symm⟩
  · rintro ⟨b, h1, h2, h3, h4⟩
    have := (fal_sp WD p b).1
    exact ⟨b, h1, (b_sw hn s b).mpr ⟨h2, h1, h3⟩, by rw [b_sb (by omega), decide_eq_true_eq]; exact h4.symm⟩
theorem ulw_lt (hn : n ≤ 24) {i : Nat} (h : bt (ulw WD p n s) i = true) : i < n := by
  obtain ⟨b, h1, _, _, h4⟩ := (b_ulw hn i).mp h
  have := (fal_sp WD p b).1
  omega
theorem ulw_wd (hw : WW WD p n) (hn : n ≤ 24) {i : Nat} (h : bt (ulw WD p n s) i = true) : wdN WD p i < 100 ∧ WD (24 * p + i) = nI (wdN WD p i) ∧ ¬ WD (24 * p + i) = -1 ∧ 0 < oft WD p s n (wdN WD p i) ∧ ∀ c, c < i → ¬ WD (24 * p + c) = WD (24 * p + i) := by
  obtain ⟨b, h1, h2, h3, h4⟩ := (b_ulw hn i).mp h
  obtain ⟨f1, f2, f3⟩ := fal_sp WD p b
  rw [h4] at f1 f2 f3
  rcases hw b h1 with q | ⟨w, w1, w2⟩
  · exact absurd q h3
  · have e : wdN WD p i = w := by unfold wdN; rw [f2, w2, nI_clamp (by omega)]
    rw [e, f2]
    exact ⟨w1, w2, h3, oft_pos.mpr ⟨b, h1, h2, w2⟩, f3⟩
/-- the words of a set, by boxes or by words -/
theorem cntW (hw : WW WD p n) (hn : n ≤ 24) (G : Nat → Bool) : cnt (fun i => bt (ulw WD p n s) i && G (wdN WD p i)) 24 = cnt (fun w => decide (0 < oft WD p s n w) && G w) 100 := by
  have hP : ∀ i, (bt (ulw WD p n s) i && G (wdN WD p i)) = true → bt (ulw WD p n s) i = true ∧ G (wdN WD p i) = true := fun i h => by rw [Bool.and_eq_true] at h; exact h
  rw [cnt_bij (fun i => bt (ulw WD p n s) i && G (wdN WD p i)) (wdN WD p) 100 24 (fun b _ h => (ulw_wd hw hn (hP b h).1).1) (fun b c _ _ h1 h2 h3 => ?_)]
  · refine cnt_congr fun w hw1 => bool_ext ?_
    rw [exB_iff, Bool.and_eq_true, decide_eq_true_eq]
    constructor
    · rintro ⟨j, j1, j2⟩
      rw [Bool.and_eq_true, decide_eq_true_eq] at j2
      obtain ⟨j3, j4⟩ := j2
      subst j4
      exact ⟨(ulw_wd hw hn (hP j j3).1).2.2.2.1, (hP j j3).2⟩
    · rintro ⟨h1, h2⟩
      obtain ⟨b, b1, b2, b3⟩ := oft_pos.mp h1
      have b4 : ¬ WD (24 * p + b) = -1 := by rw [b3, nI_ne1 (by omega)]; exact fun z => z
      have f2 := (fal_sp WD p b).2.1
      have f1 := (fal_sp WD p b).1
      have e : wdN WD p (fal WD p b) = w := by unfold wdN; rw [f2, b3, nI_clamp (by omega)]
      refine ⟨fal WD p b, by omega, ?_⟩
      rw [Bool.and_eq_true, Bool.and_eq_true, decide_eq_true_eq, e]
      exact ⟨⟨(b_ulw hn _).mpr ⟨b, b1, b2, b4, rfl⟩, h2⟩, rfl⟩
  · have a1 := ulw_wd hw hn (hP b h1).1
    have a2 := ulw_wd hw hn (hP c h2).1
    have e : WD (24 * p + b) = WD (24 * p + c) := by rw [a1.2.1, a2.2.1, h3]
    rcases Nat.lt_trichotomy b c with q | q | q
    · exact absurd e (a2.2.2.2.2 b q)
    · exact q
    · exact absurd e.symm (a1.2.2.2.2 c q)
theorem hsw_iff (hn : n ≤ 24) {w : Nat} (hw : w < 100) : hsw WD p n s (nI w) = decide (0 < oft WD p s n w) := by
  unfold hsw
  refine bool_ext ?_
  rw [decide_eq_true_eq, oft_pos]
  cases h : fst (fun b => bt (s &&& mk (wordM WD p) n) b && decide (WD (24 * p + b) = nI w)) n 0 with
  | none =>
    refine ⟨fun q => (by cases q), fun ⟨b, b1, b2, b3⟩ => ?_⟩
    have q := fst_none _ _ h b (Nat.zero_le b) (by omega)
    rw [(b_sw hn s b).mpr ⟨b2, b1, by rw [b3, nI_ne1 (by omega)]; exact fun z => z⟩, decide_eq_true b3] at q
    cases q
  | some i =>
    obtain ⟨_, h2, h3, _⟩ := fst_some _ _ _ h
    rw [Bool.and_eq_true, decide_eq_true_eq] at h3
    exact ⟨fun _ => ⟨i, by omega, ((b_sw hn s i).mp h3.1).1, h3.2⟩, fun _ => rfl⟩
def sumN (f : Nat → Nat) : Nat → Nat
  | 0 => 0
  | n + 1 => sumN f n + f n
theorem sumN_add1 (f : Nat → Nat) {k m : Nat} (hk : k < m) : sumN (fun w => f w + (if w = k then 1 else 0)) m = sumN f m + 1 := by
  induction m with
  | zero => omega
  | succ m ih =>
    rw [sumN, sumN]
    by_cases e : m = k
    · subst e
      have z : ∀ j, j ≤ m → sumN (fun w => f w + (if w = m then 1 else 0)) j = sumN f j := by
        intro j
        induction j with
        | zero => intro _; rfl
        | succ j ihj => intro hj; rw [sumN, sumN, ihj (by omega), if_neg (by omega), Nat.add_zero]
      rw [z m (Nat.le_refl m), if_pos rfl]; omega
    · rw [ih (by omega), if_neg e]; omega
theorem sumN_congr {f g : Nat → Nat} {m : Nat} (h : ∀ w, w < m → f w = g w) : sumN f m = sumN g m := by
  induction m with
  | zero => rfl
  | succ m ih => rw [sumN, sumN, ih (fun w hw => h w (by omega)), h m (by omega)]
theorem sum_oft (hw : WW WD p n) : ∀ k, k ≤ n → cnt (fun b => bt s b && wordM WD p b) k = sumN (fun w => oft WD p s k w) 100 := by
  intro k
  induction k with
  | zero =>
    intro _
    have : ∀ m, sumN (fun w => oft WD p s 0 w) m = 0 := by
      intro m
      induction m with
      | zero => rfl
      | succ m ih => rw [sumN, ih]; rfl
    rw [this]; rfl
  | succ k ih =>
    intro hk
    rw [cnt_st, ih (by omega)]
    cases hb : bt s k with
    | false =>
      rw [Bool.false_and, if_neg (by decide), Nat.add_zero]
      refine sumN_congr fun w _ => ?_
      rw [oft_st, hb, Bool.false_and, if_neg (by decide), Nat.add_zero]
    | true =>
      rcases hw k (by omega) with q | ⟨w0, w1, w2⟩
      · have : wordM WD p k = false := by unfold wordM; rw [q]; rfl
        rw [this, Bool.and_false, if_neg (by decide), Nat.add_zero]
        refine sumN_congr fun w hw1 => ?_
        rw [oft_st, q, decide_eq_false (m1_nI (by omega)), Bool.and_false, if_neg (by decide), Nat.add_zero]
      · have : wordM WD p k = true := by unfold wordM; rw [w2]; exact decide_eq_true (by rw [nI_ne1 (by omega)]; exact fun z => z)
        rw [this, Bool.and_self, if_pos rfl, ← sumN_add1 (fun w => oft WD p s k w) w1]
        refine sumN_congr fun w hw1 => ?_
        rw [oft_st, hb, Bool.true_and, w2]
        by_cases e : w = w0
        · rw [if_pos e, e, if_pos (decide_eq_true rfl)]
        · rw [if_neg e, if_neg (by rw [decide_eq_true_eq, nI_eqE (by omega) (by omega)]; omega)]
theorem sum_pos (f : Nat → Nat) (m : Nat) : cnt (fun w => decide (0 < f w)) m ≤ sumN f m ∧ (sumN f m = cnt (fun w => decide (0 < f w)) m ↔ alB (fun w => decide (f w < 2)) m = true) := by
  induction m with
  | zero => exact ⟨Nat.le_refl 0, fun _ => rfl, fun _ => rfl⟩
  | succ m ih =>
    obtain ⟨i1, i2⟩ := ih
    have d : (decide (f m < 2) = true) ↔ f m < 2 := by simp
    rw [cnt_st, sumN, alB_st, Bool.and_eq_true, d, ← i2]
    by_cases e : 0 < f m
    · rw [decide_eq_true e, if_pos rfl]
      exact ⟨by omega, fun q => ⟨by omega, by omega⟩, fun q => by omega⟩
    · rw [decide_eq_false e, if_neg (by decide)]
      exact ⟨by omega, fun q => ⟨by omega, by omega⟩, fun q => by omega⟩
theorem cnt_mk (P : Nat → Bool) (hn : n ≤ 24) : cnt (bt (mk P n)) 24 = cnt P n := by
  rw [show (24 : Nat) = n + (24 - n) by omega, cnt_add]
  have e1 : cnt (bt (mk P n)) n = cnt P n := cnt_congr fun i hi => by rw [b_mk _ (by omega), decide_eq_true hi, Bool.true_and]
  have e2 : cnt (fun i => bt (mk P n) (n + i)) (24 - n) = cnt (fun _ => false) (24 - n) := cnt_congr fun i _ => by rw [b_mk _ (by omega), decide_eq_false (by omega), Bool.false_and]
  rw [e1, e2, cnt_none, Nat.add_zero]
/-- UNLIKE: as many boxes with a word as unlike words -/
theorem unlike_iff (hw : WW WD p n) (hn : n ≤ 24) : (cnt (bt (s &&& mk (wordM WD p) n)) 24 = cnt (bt (ulw WD p n s)) 24) ↔ alB (fun w => decide (oft WD p s n w < 2)) 100 = true := by
  have e1 : cnt (bt (s &&& mk (wordM WD p) n)) 24 = sumN (fun w => oft WD p s n w) 100 := by
    rw [← sum_oft hw n (Nat.le_refl n), ← cnt_mk (fun b => bt s b && wordM WD p b) hn]
    refine cnt_congr fun i hi => ?_
    rw [b_and, b_mk _ (by omega), b_mk _ (by omega)]
    cases bt s i <;> cases decide (i < n) <;> rfl
  have e2 : cnt (bt (ulw WD p n s)) 24 = cnt (fun w => decide (0 < oft WD p s n w)) 100 := by
    have := cntW (s := s) hw hn (fun _ => true)
    simp only [Bool.and_true] at this
    exact this
  rw [e1, e2]
  exact (sum_pos _ 100).2
/-- BETWEEN -/
theorem between_eq (hw : WW WD p n) (hn : n ≤ 24) (B : Int32 → Bool) : alB (fun w => decide (oft WD p s n w = 0) || B (nI w)) 100 = (fst (fun b => bt (s &&& mk (wordM WD p) n) b && !(B (WD (24 * p + b)))) n 0).isNone := by
  have al : ∀ (P : Nat → Bool) m, alB P m = true ↔ ∀ w, w < m → P w = true := by
    intro P m
    induction m with
    | zero => exact ⟨fun _ w h => absurd h (Nat.not_lt_zero w), fun _ => rfl⟩
    | succ m ih =>
      rw [alB_st, Bool.and_eq_true, ih]
      constructor
      · rintro ⟨h1, h2⟩ w hw
        by_cases q : w = m
        · subst q; exact h2
        · exact h1 w (by omega)
      · intro h; exact ⟨fun w hw => h w (by omega), h m (by omega)⟩
  refine bool_ext ?_
  rw [al]
  cases h : fst (fun b => bt (s &&& mk (wordM WD p) n) b && !(B (WD (24 * p + b)))) n 0 with
  | none =>
    refine ⟨fun _ => rfl, fun _ w hw1 => ?_⟩
    rw [Bool.or_eq_true, decide_eq_true_eq]
    rcases Nat.eq_zero_or_pos (oft WD p s n w) with q | q
    · exact Or.inl q
    · obtain ⟨b, b1, b2, b3⟩ := oft_pos.mp q
      have z := fst_none _ _ h b (Nat.zero_le b) (by omega)
      rw [(b_sw hn s b).mpr ⟨b2, b1, by rw [b3, nI_ne1 (by omega)]; exact fun z => z⟩, Bool.true_and, b3] at z
      exact Or.inr (by simpa using z)
  | some i =>
    obtain ⟨_, h2, h3, _⟩ := fst_some _ _ _ h
    rw [Bool.and_eq_true] at h3
    obtain ⟨g1, g2, g3⟩ := (b_sw hn s i).mp h3.1
    refine ⟨fun q => ?_, fun q => (by cases q)⟩
    exfalso
    rcases hw i g2 with z | ⟨w, w1, w2⟩
    · exact g3 z
    · have r := q w w1
      rw [Bool.or_eq_true, decide_eq_true_eq] at r
      have o := oft_pos.mpr ⟨i, g2, g1, w2⟩
      rw [w2] at h3
      rcases r with r | r
      · omega
      · rw [r] at h3; exact absurd h3.2 (by decide)
end wordp
theorem lks_cnt (o : Nat → Nat) (bf : Nat → Bool) (m : Nat) : lks o bf m = nI (cnt (fun w => decide (0 < o w) && bf w) m) - nI (cnt (fun w => decide (0 < o w) && !(bf w)) m) := by
  induction m with
  | zero => show (0 : Int32) = nI 0 - nI 0; decide
  | succ m ih =>
    rw [lks, ih, cnt_st, cnt_st]
    by_cases e : o m = 0
    · rw [if_pos e, decide_eq_false (by omega), Bool.false_and, Bool.false_and, if_neg (by decide), Nat.add_zero, Nat.add_zero, Int32.add_zero]
    · rw [if_neg e, decide_eq_true (by omega), Bool.true_and, Bool.true_and]
      cases bf m with
      | true =>
        rw [if_pos rfl, if_pos rfl, Bool.not_true, if_neg (by decide), Nat.add_zero, nI_succ]
        rw [Int32.sub_eq_add_neg, Int32.sub_eq_add_neg, Int32.add_assoc, Int32.add_assoc, Int32.add_comm (-_) 1]
        rfl
      | false =>
        rw [if_neg (by decide), if_neg (by decide), Bool.not_false, if_pos rfl, Nat.add_zero, ← nI_dec]
