/-! what a page's own rows decide, whatever other pages' rows hold -/
theorem lst_congr {P Q : Nat → Bool} {n : Nat} (h : ∀ i, i < n → P i = Q i) : lst P n = lst Q n := by
  induction n with
  | zero => rfl
  | succ n ih => rw [lst, lst, ih (fun i hi => h i (by omega)), h n (by omega)]
section cong
variable {PR PR' KD KD' WD WD' : Nat → Int32} {p n : Nat}
theorem up_c (hP : ∀ c, c < 24 → PR' (24 * p + c) = PR (24 * p + c)) {c : Nat} (hc : c < 24) : up PR' p c = up PR p c := by unfold up; rw [hP c hc]
theorem sib_c (hP : ∀ c, c < 24 → PR' (24 * p + c) = PR (24 * p + c)) {c d : Nat} (hc : c < 24) (hd : d < 24) : sib PR' p c d = sib PR p c d := by unfold sib; rw [hP c hc, hP d hd]
theorem dp_c (hP : ∀ c, c < 24 → PR' (24 * p + c) = PR (24 * p + c)) (s : Int32) : ∀ c, c ≤ 24 → dp PR' p s c = dp PR p s c := by
  intro c
  induction c with
  | zero => intro _; rfl
  | succ c ih => intro hc; rw [dp, dp, ih (by omega), up_c hP (by omega)]
theorem ledP_c (hP : ∀ c, c < 24 → PR' (24 * p + c) = PR (24 * p + c)) (hK : ∀ c, c < 24 → KD' (24 * p + c) = KD (24 * p + c)) (s : Int32) (t : Nat) {c : Nat} (hc : c < 24) : ledP PR' KD' p s t c = ledP PR KD p s t c := by
  unfold ledP
  rw [up_c hP hc, hK c hc, dp_c hP s c (by omega), cnt_congr (fun d hd => sib_c hP hc (show d < 24 by omega)), lst_congr (fun d hd => sib_c hP hc (show d < 24 by omega))]
theorem ss_c (hP : ∀ c, c < 24 → PR' (24 * p + c) = PR (24 * p + c)) (hK : ∀ c, c < 24 → KD' (24 * p + c) = KD (24 * p + c)) (hn : n ≤ 24) (x : Nat) : ∀ i, ss PR' KD' p n x i = ss PR KD p n x i := by
  intro i
  induction i with
  | zero => rfl
  | succ i ih => rw [ss, ss, ih]; exact mk_congr (fun c hc => ledP_c hP hK _ _ (by omega))
theorem sn_c (hP : ∀ c, c < 24 → PR' (24 * p + c) = PR (24 * p + c)) (hK : ∀ c, c < 24 → KD' (24 * p + c) = KD (24 * p + c)) (hn : n ≤ 24) (x : Nat) : sn PR' KD' p n x = sn PR KD p n x := by unfold sn; exact ss_c hP hK hn x _
theorem PW_c (hP : ∀ c, c < 24 → PR' (24 * p + c) = PR (24 * p + c)) (hn : n ≤ 24) (h : PW PR p n) : PW PR' p n := ⟨(hP 0 (by decide)).trans h.1, fun c h0 hc => by rw [up_c hP (by omega), hP c (by omega)]; exact h.2 c h0 hc⟩
theorem dph_c (hP : ∀ c, c < 24 → PR' (24 * p + c) = PR (24 * p + c)) (hn : n ≤ 24) (h : PW PR p n) : ∀ f b, b < n → dph PR' p f b = dph PR p f b := by
  intro f
  induction f with
  | zero => intro b _; rfl
  | succ f ih =>
    intro b hb
    rw [dph, dph]
    by_cases q : b = 0
    · rw [if_pos q, if_pos q]
    · rw [if_neg q, if_neg q, up_c hP (by omega), ih _ (by have := (h.2 b (by omega) hb).2; omega)]
theorem fal_c (hW : ∀ c, c < 24 → WD' (24 * p + c) = WD (24 * p + c)) {b : Nat} (hb : b < 24) : fal WD' p b = fal WD p b := by
  unfold fal
  rw [fst_congr (P := fun c => decide (WD' (24 * p + c) = WD' (24 * p + b))) (Q := fun c => decide (WD (24 * p + c) = WD (24 * p + b))) b 0 (fun k _ hk => by rw [hW k (by omega), hW b hb])]
theorem PV_c {μ : mM} {a : Nat} (hP : ∀ c, c < 24 → PR' (24 * p + c) = PR (24 * p + c)) (hK : ∀ c, c < 24 → KD' (24 * p + c) = KD (24 * p + c)) (hW : ∀ c, c < 24 → WD' (24 * p + c) = WD (24 * p + c)) (h : PV μ a p n PR KD WD) : PV μ a p n PR' KD' WD' := by
  obtain ⟨hs, ⟨c1, c2, c3, c4, c5⟩, ⟨h1, hn⟩, hw, hww, hkw⟩ := h
  refine ⟨hs, ⟨c1, ?_, ?_, fun k hk => ?_, fun b hb => ?_⟩, ⟨h1, hn⟩, PW_c hP hn hw, fun b hb => by rw [hW b (by omega)]; exact hww b hb, fun b hb => by rw [hK b (by omega)]; exact hkw b hb⟩
  · rw [c2]
    exact mk_congr (fun c hc => by unfold wordM; rw [hW c (by omega)])
  · rw [c3]
    exact mk_congr (fun c hc => by
      unfold rowsM
      rw [cnt_congr (P := fun d => decide (PR' (24 * p + d) = nI c)) (Q := fun d => decide (PR (24 * p + d) = nI c)) (fun d hd => by rw [hP d (by omega)])])
  · rw [c4 k hk]
    unfold okd
    exact mk_congr (fun c hc => by rw [hK c (by omega)])
  · obtain ⟨d1, d2, d3, d4, d5, d6, d7⟩ := c5 b hb
    refine ⟨by rw [d1, hK b (by omega)], by rw [d2, hW b (by omega)], by rw [d3, hP b (by omega)], by rw [d4, dph_c hP hn hw 24 b hb], ?_, ?_, by rw [d7, fal_c hW (by omega)]⟩
    · rw [d5]
      unfold inn
      exact mk_congr (fun c hc => by rw [hP c (by omega)])
    · rw [d6]
      unfold dpr
      exact mk_congr (fun c hc => by rw [dp_c hP _ c (by omega), up_c hP (by omega)])
theorem DRN_c {μ : mM} {a : Nat} (hP : ∀ c, c < 24 → PR' (24 * p + c) = PR (24 * p + c)) (hK : ∀ c, c < 24 → KD' (24 * p + c) = KD (24 * p + c)) (hn : n ≤ 24) (h : DRN μ a p n PR KD) : DRN μ a p n PR' KD' := by
  unfold DRN at h ⊢
  exact h.imp id (fun z => ⟨z.1, fun x hx => by rw [sn_c hP hK hn]; exact z.2 x hx⟩)
end cong
