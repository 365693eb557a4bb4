/-! what holds between calls: the class's objects are the model's rows -/
def Rl (μ : mM) (nr : Nat) (QA : Nat → Nat) : Prop := nr ≤ 10 ∧ isR μ 3 6 10 ∧ ∀ r, r < nr → RA μ 3 r = some (QA r) ∧ ∃ k q, RW (A μ 32) (A μ 33) r k ∧ A μ 31 r = nI q ∧ RV μ (QA r) r k q (A μ 33)
def Lw (μ : mM) (nl : Nat) (LA : Nat → Nat) : Prop := nl ≤ 8 ∧ isR μ 4 1 8 ∧ ∀ l, l < nl → RA μ 4 l = some (LA l) ∧ LV μ (LA l) (fq μ l) (A μ 40 l) (A μ 41 l) ∧ A μ 39 l = nI (fq μ l)
def askV (μ : mM) (np : Nat) : Option (Nat × Nat) := akP (mayF (A μ 24) (A μ 25) (ldF (A μ 20) (A μ 23) (A μ 21) (FT μ np)) (cnt (FT μ np) 3615)) (moF (ldF (A μ 20) (A μ 23) (A μ 21) (FT μ np)) (cnt (FT μ np) 3615)) (bnn (A μ 20)) np
def FOK (μ : mM) (np : Nat) : Prop := FS μ np (A μ 20) (A μ 23) (A μ 21) (FT μ np) (EVs μ np) 3615 ∧ FI μ 11 4 = akI (askV μ np)
def ShC (μ : mM) : Prop := CV μ ∧ PrV μ ∧ RrV μ ∧ FV μ ∧ MeV μ ∧ PiV μ ∧ isA μ 18 0 24
def Cts (μ : mM) (np nr nl : Nat) : Prop := FI μ 19 0 = nI np ∧ FI μ 19 17 = nI nr ∧ FI μ 19 27 = nI nl ∧ FI μ 0 3 = nI np ∧ FI μ 0 5 = nI nr ∧ FI μ 0 7 = nI nl
def Adr (μ : mM) (np nr nl : Nat) (PA QA LA : Nat → Nat) : Prop := ADs PA np ∧ (∀ p, p < np → PA p + 10 ≤ mN μ) ∧ (∀ r, r < nr → 48 ≤ QA r ∧ QA r + 2 ≤ mN μ) ∧ ∀ l, l < nl → 48 ≤ LA l ∧ LA l + 1 ≤ mN μ
/-- pages that are not there have no marks -/
def Zr (μ : mM) (np : Nat) : Prop := (∀ i, 24 * np ≤ i → i < 192 → A μ 24 i = 0) ∧ ∀ p, np ≤ p → p < 8 → A μ 25 p = 0
def Rm (μ : mM) (np nr nl : Nat) : Prop := (∀ a, mN μ ≤ a → mF μ a = none) ∧ mN μ = 48 + 10 * np + 2 * nr + nl ∧ mS μ ≤ 60000 + 5000 * np + 16 * nr + 4 * nl ∧ Zr μ np
def INV (C : Nat × (Nat → Int32)) (μ : mM) (np nr nl ns : Nat) (PA QA LA sh : Nat → Nat) : Prop := MS μ ∧ ShC μ ∧ Cts μ np nr nl ∧ (SHo μ ns sh ∧ SHm μ ns sh) ∧ PGs (A μ 20) (A μ 23) np ∧ PGV μ np PA (A μ 20) (A μ 23) (A μ 21) (A μ 22) (A μ 24) (A μ 25) ∧ Rl μ nr QA ∧ Lw μ nl LA ∧ (FI μ 0 11 = 0 ∨ (FI μ 0 11 = 1 ∧ FOK μ np)) ∧ Adr μ np nr nl PA QA LA ∧ Rm μ np nr nl ∧ μ.2.1 = C
def OKc (C : Nat × (Nat → Int32)) (μ : mM) : Prop := ∃ np nr nl ns PA QA LA sh, INV C μ np nr nl ns PA QA LA sh
abbrev scrX : List Nat := [6, 7, 8, 10, 13, 16, 17, 18, 27, 28, 29, 30, 34, 35, 36, 37, 38, 42, 43, 44, 45, 46, 47]
abbrev scrX2 : List Nat := [1, 26, 6, 7, 8, 10, 13, 16, 17, 18, 27, 28, 29, 30, 34, 35, 36, 37, 38, 42, 43, 44, 45, 46, 47]
abbrev scrY2 : List (Nat × Nat) := [(0, 1), (19, 8), (5, 3), (5, 4), (5, 5), (5, 6), (5, 7), (9, 1), (9, 2), (9, 3), (14, 0), (14, 1), (14, 2), (14, 3), (19, 9), (19, 10), (19, 14), (19, 16), (19, 23), (19, 37)]
abbrev scrY : List (Nat × Nat) := [(5, 3), (5, 4), (5, 5), (5, 6), (5, 7), (9, 1), (9, 2), (9, 3), (14, 0), (14, 1), (14, 2), (14, 3), (19, 9), (19, 10), (19, 14), (19, 16), (19, 23), (19, 37)]
theorem scrX_lt : ∀ a ∈ scrX2, a < 48 := by decide
theorem scrY_lt : ∀ y ∈ scrY2, y.1 < 48 := by decide
theorem LV_K {X : List Nat} {Y : List (Nat × Nat)} {μ ν : mM} {l q : Nat} {x y : Int32} (h : LV μ l q x y) (k : K X Y μ ν) (hY : ∀ j, j < 3 → (l, j) ∉ Y) : LV ν l q x y := ⟨K_isO k h.1, by rw [K_FI k (hY 0 (by decide))]; exact h.2.1, by rw [K_FI k (hY 1 (by decide))]; exact h.2.2.1, by rw [K_FI k (hY 2 (by decide))]; exact h.2.2.2.1, h.2.2.2.2⟩
/-- the model's rows that count are as they were -/
def Kp (μ ν : mM) : Prop := A ν 20 = A μ 20 ∧ A ν 21 = A μ 21 ∧ A ν 22 = A μ 22 ∧ A ν 23 = A μ 23 ∧ A ν 24 = A μ 24 ∧ A ν 25 = A μ 25
theorem Kp_FT {μ ν : mM} (h : Kp μ ν) (np : Nat) : FT ν np = FT μ np ∧ EVs ν np = EVs μ np ∧ askV ν np = askV μ np := by
  obtain ⟨a, b, c, d, e, f⟩ := h
  have h1 : FT ν np = FT μ np := by unfold FT; rw [a, b, d, e, f]
  have h2 : EVs ν np = EVs μ np := by unfold EVs; rw [h1, a, b, d, e, f]
  refine ⟨h1, h2, ?_⟩
  unfold askV
  rw [h1, a, b, d, e, f]
theorem INV_K2 {C : Nat × (Nat → Int32)} {X : List Nat} {Y : List (Nat × Nat)} {μ ν : mM} {np nr nl ns ns' : Nat} {PA QA LA sh sh' : Nat → Nat} (h : INV C μ np nr nl ns PA QA LA sh) (k : K X Y μ ν) (hX : ∀ a ∈ X, a ∈ scrX2) (hY : ∀ y ∈ Y, y ∈ scrY2) (hS : SHo ν ns' sh' ∧ SHm ν ns' sh') : INV C ν np nr nl ns' PA QA LA sh' := by
  have k := k.mono hX hY
  obtain ⟨hM, ⟨c1, c2, c3, c4, c5, c6, c7⟩, ⟨n1, n2, n3, n4, n5, n6⟩, ⟨s1, s2⟩, hG, hV, hR, hL, hF, ⟨ad1, ad2, ad3, ad4⟩, ⟨r1, r2, r3, r4⟩, hC⟩ := h
  have e20 := K_A k (a := 20) (by decide)
  have e21 := K_A k (a := 21) (by decide)
  have e22 := K_A k (a := 22) (by decide)
  have e23 := K_A k (a := 23) (by decide)
  have e24 := K_A k (a := 24) (by decide)
  have e25 := K_A k (a := 25) (by decide)
  have e31 := K_A k (a := 31) (by decide)
  have e32 := K_A k (a := 32) (by decide)
  have e33 := K_A k (a := 33) (by decide)
  have e39 := K_A k (a := 39) (by decide)
  have e40 := K_A k (a := 40) (by decide)
  have e41 := K_A k (a := 41) (by decide)
  obtain ⟨f1, f2, f3⟩ := Kp_FT (μ := μ) (ν := ν) ⟨e20, e21, e22, e23, e24, e25⟩ np
  have eN : mN ν = mN μ := by unfold mN; rw [k.2.1.1]
  have eS : mS ν = mS μ := by unfold mS; rw [k.2.1.1]
  refine ⟨MS_K hM k, ⟨CV_K c1 k, PrV_K c2 k, RrV_K c3 k, FV_K c4 k, MeV_K c5 k, PiV_K c6 k, K_isA k c7⟩, ⟨?_, ?_, ?_, ?_, ?_, ?_⟩, hS, ?_, ?_, ?_, ?_, ?_, ?_, ?_, ?_⟩
  · rw [K_FI k (by decide)]; exact n1
  · rw [K_FI k (by decide)]; exact n2
  · rw [K_FI k (by decide)]; exact n3
  · rw [K_FI k (by decide)]; exact n4
  · rw [K_FI k (by decide)]; exact n5
  · rw [K_FI k (by decide)]; exact n6
  · rw [e20, e23]; exact hG
  · rw [e20, e21, e22, e23, e24, e25]; exact PGV_K hV ad1 k scrX_lt scrY_lt
  · refine ⟨hR.1, K_isR k hR.2.1, fun r hr => ?_⟩
    obtain ⟨g1, kk, q, g2, g3, g4⟩ := hR.2.2 r hr
    have h48 := (ad3 r hr).1
    refine ⟨by rw [K_RA k]; exact g1, kk, q, by rw [e32, e33]; exact g2, by rw [e31]; exact g3, ?_⟩
    rw [e33]
    exact RV_K g4 k (fun z => by have := scrX_lt _ z; omega) (fun z => by have : QA r < 48 := scrY_lt _ z; omega)
  · refine ⟨hL.1, K_isR k hL.2.1, fun l hl => ?_⟩
    obtain ⟨g1, g2, g3⟩ := hL.2.2 l hl
    have h48 := (ad4 l hl).1
    have ef : fq ν l = fq μ l := by unfold fq; rw [e39]
    refine ⟨by rw [K_RA k]; exact g1, ?_, by rw [ef, e39]; exact g3⟩
    rw [ef, e40, e41]
    exact LV_K g2 k (fun j _ z => by have : LA l < 48 := scrY_lt _ z; omega)
  · rw [K_FI k (by decide)]
    refine hF.imp id (fun z => ⟨z.1, ?_⟩)
    obtain ⟨_, ⟨b0, b1, b2, b3, b4⟩, b5⟩ := z
    unfold FOK FS
    rw [f1, f2, f3, e20, e21, e23, K_FI k (a := 11) (k := 0) (by decide), K_FI k (a := 11) (k := 1) (by decide), K_FI k (a := 11) (k := 2) (by decide), K_FI k (a := 11) (k := 3) (by decide), K_FI k (a := 11) (k := 4) (by decide)]
    exact ⟨⟨b0, b1, b2, b3, LDs_K b4 k (by decide)⟩, b5⟩
  · exact ⟨ad1, by rw [eN]; exact ad2, by rw [eN]; exact ad3, by rw [eN]; exact ad4⟩
  · exact ⟨by rw [eN]; exact fun a ha => k.1.2.2.2 a (r1 a ha), by rw [eN]; exact r2, by rw [eS]; exact r3, by unfold Zr; rw [e24, e25]; exact r4⟩
  · rw [k.2.1.2]; exact hC
theorem INV_K {C : Nat × (Nat → Int32)} {X : List Nat} {Y : List (Nat × Nat)} {μ ν : mM} {np nr nl ns : Nat} {PA QA LA sh : Nat → Nat} (h : INV C μ np nr nl ns PA QA LA sh) (k : K X Y μ ν) (hX : ∀ a ∈ X, a ∈ scrX) (hY : ∀ y ∈ Y, y ∈ scrY) : INV C ν np nr nl ns PA QA LA sh := by
  have k := k.mono hX hY
  exact INV_K2 h k (by decide) (by decide) ⟨SHo_K h.2.2.2.1.1 k (by decide) (by decide), SHm_K h.2.2.2.1.2 k (by decide) (by decide)⟩
theorem INV_SC {C : Nat × (Nat → Int32)} {X Y : List Nat} {μ ν : mM} {np nr nl ns : Nat} {PA QA LA sh : Nat → Nat} (h : INV C μ np nr nl ns PA QA LA sh) (s : SC X Y μ ν) (hX : ∀ a ∈ X, a ∈ scrX ∧ 20 ≤ a ∧ a ≤ 47) (hY : ∀ y ∈ Y, (19, y) ∈ scrY) : INV C ν np nr nl ns PA QA LA sh :=
  INV_K h (SC_K h.1 s (fun a ha => (hX a ha).2)) (fun a ha => (hX a ha).1) (fun y hy => by
    obtain ⟨k, k1, k2⟩ := List.mem_map.mp hy
    rw [← k2]; exact hY k k1)
