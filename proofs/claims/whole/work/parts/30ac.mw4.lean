-- the reference's world grows
def runA : List Nat := [69, 70, 71, 72, 73, 75, 77, 78, 79, 80]
/-- what was there is there still -/
def Gr (φ : Nat → Nat → Int32) (ν : Nat → Int32) (DM : Nat → zM) (φ' : Nat → Nat → Int32) (ν' : Nat → Int32) (DM' : Nat → zM) : Prop :=
  (∀ k, k ∈ [5, 30, 34, 43, 46, 52, 58] → vN ν k ≤ vN ν' k) ∧ (∀ m, m < vN ν 5 → DM' m = DM m) ∧ (∀ k, k ∈ [31, 32, 35, 36, 37, 38] → ∀ i, i < vN ν 30 → φ' k i = φ k i) ∧ (∀ j, j < vN ν 34 → φ' 33 j = φ 33 j) ∧ (∀ f, f < vN ν 43 → φ' 44 f = φ 44 f ∧ φ' 45 f = φ 45 f) ∧ ∀ g, g < vN ν 58 → φ' 59 g = φ 59 g
section MW4
variable {φ φ' : Nat → Nat → Int32} {ν ν' : Nat → Int32} {DM DM' : Nat → zM} {len len' K f i : Nat}
theorem fnO.mo (h : fnO ν f) (hg : Gr φ ν DM φ' ν' DM') : fnO ν' f := h.imp (fun h => Nat.lt_of_lt_of_le h (hg.1 43 (by decide))) id
theorem Gr.im (hg : Gr φ ν DM φ' ν' DM') (hi : i < vN ν 30) : aV φ' 31 i = aV φ 31 i := by
  unfold aV
  rw [hg.2.2.1 31 (by decide) i hi]
theorem Gr.fm (hg : Gr φ ν DM φ' ν' DM') (h3 : W3 φ ν DM) (h4 : W4 φ ν DM) (hf : f < vN ν 43) : fMo φ' DM' f = fMo φ DM f ∧ fTy φ' DM' f = fTy φ DM f := by
  obtain ⟨i, b, e1, e2, e3, e4⟩ := h4.1 f hf
  obtain ⟨m, ip, ofn, ov, ot, om, ⟨d1, -⟩, ⟨d2, -⟩, -⟩ := h3 i e3
  have a44 : aV φ 44 f = i := aV_of e1
  have b44 : aV φ' 44 f = i := aV_of (by rw [(hg.2.2.2.2.1 f hf).1]; exact e1)
  have a31 : aV φ 31 i = m := aV_of d1
  have h1 : fMo φ' DM' f = fMo φ DM f := by
    unfold fMo
    rw [a44, b44, hg.im e3, a31]
    exact hg.2.1 m d2
  refine ⟨h1, ?_⟩
  unfold fTy
  rw [h1]
  unfold aV
  rw [(hg.2.2.2.2.1 f hf).2]
theorem Gr.fp (hg : Gr φ ν DM φ' ν' DM') (h3 : W3 φ ν DM) (h4 : W4 φ ν DM) (hf : fnO ν f) (h43 : vN ν 43 ≤ 8192) : fPl φ' DM' f = fPl φ DM f ∧ fRt φ' DM' f = fRt φ DM f := by
  unfold fPl fRt
  rcases hf with hf | hf
  · obtain ⟨e1, e2⟩ := hg.fm h3 h4 hf
    rw [e1, e2]
    exact ⟨rfl, rfl⟩
  · rw [if_neg (by omega), if_neg (by omega), if_neg (by omega), if_neg (by omega)]
    exact ⟨rfl, rfl⟩
theorem rOK.gr {D : zM} {k : Nat} {r : Int} (h : rOK φ ν DM D k r) (hg : Gr φ ν DM φ' ν' DM') (h3 : W3 φ ν DM) (h4 : W4 φ ν DM) (h43 : vN ν 43 ≤ 8192) : rOK φ' ν' DM' D k r := by
  obtain ⟨a0, a1, a2, a3⟩ := h
  have g46 := hg.1 46 (by decide)
  have g52 := hg.1 52 (by decide)
  have g58 := hg.1 58 (by decide)
  refine ⟨fun e => ?_, fun e => ?_, fun e => ?_, fun e => ?_⟩
  · obtain ⟨f, e1, e2, e3, e4⟩ := a0 e
    obtain ⟨d1, d2⟩ := hg.fp h3 h4 e2 h43
    exact ⟨f, e1, e2.mo hg, by rw [d1]; exact e3, by rw [d2]; exact e4⟩
  · obtain ⟨t, e1, e2⟩ := a1 e
    exact ⟨t, e1, by omega⟩
  · obtain ⟨t, e1, e2⟩ := a2 e
    exact ⟨t, e1, by omega⟩
  · obtain ⟨g, e1, e2, e3⟩ := a3 e
    exact ⟨g, e1, by omega, by rw [hg.2.2.2.2.2 g e2]; exact e3⟩
theorem iOK.gr (h : iOK φ ν DM i) (hi : i < vN ν 30) (hg : Gr φ ν DM φ' ν' DM') (h3 : W3 φ ν DM) (h4 : W4 φ ν DM) (h43 : vN ν 43 ≤ 8192) : iOK φ' ν' DM' i := by
  obtain ⟨m, ip, ofn, ov, ot, om, ⟨d1, d2, d3, d4, d5, d6⟩, ⟨e1, e2, e3, e4, e5, e6⟩, f1, f2, f3⟩ := h
  have hn := fun k (hk : k ∈ [5, 30, 34, 43, 46, 52, 58]) => hg.1 k hk
  have g5 := hn 5 (by decide)
  have g34 := hn 34 (by decide)
  have g43 := hn 43 (by decide)
  have g46 := hn 46 (by decide)
  have g52 := hn 52 (by decide)
  have g58 := hn 58 (by decide)
  have hr := fun k (hk : k ∈ [31, 32, 35, 36, 37, 38]) => hg.2.2.1 k hk i hi
  have hD := hg.2.1 m e1
  refine ⟨m, ip, ofn, ov, ot, om, ⟨?_, ?_, ?_, ?_, ?_, ?_⟩, ?_, ?_, ?_, ?_⟩
  · rw [hr 31 (by decide)]; exact d1
  · rw [hr 32 (by decide)]; exact d2
  · rw [hr 35 (by decide)]; exact d3
  · rw [hr 36 (by decide)]; exact d4
  · rw [hr 37 (by decide)]; exact d5
  · rw [hr 38 (by decide)]; exact d6
  · rw [hD]
    exact ⟨by omega, by omega, by omega, by omega, fun h => by have := e5 h; omega, fun h => by have := e6 h; omega⟩
  · rw [hD]
    intro k hk
    obtain ⟨y1, y2⟩ := hg.2.2.2.2.1 (ofn + k) (by omega)
    rw [y1, y2]
    exact f1 k hk
  · rw [hD]
    intro k hk
    rw [hg.2.2.2.2.2 (ov + k) (by omega)]
    exact f2 k hk
  · rw [hD]
    intro k hk
    rw [hg.2.2.2.1 (ip + k) (by omega)]
    exact (f3 k hk).gr hg h3 h4 h43
theorem gOK.cg {cb : Nat → Int32} {V : Nat → Prop} {h0 o0 : Nat} (hr : ∀ k, k ∈ runA → φ' k = φ k) : ∀ {gs : List gF}, gOK φ cb V h0 o0 gs → gOK φ' cb V h0 o0 gs
  | [], _ => trivial
  | x :: r, h => by
    refine ⟨?_, h.2.cg hr⟩
    rw [hr 77 (by decide), hr 78 (by decide), hr 79 (by decide), hr 80 (by decide)]
    exact h.1
theorem clO.gr {x : cX} {k o top : Nat} {pre : List Int} (h : clO φ ν DM x k o pre top) (hg : Gr φ ν DM φ' ν' DM') (h3 : W3 φ ν DM) (h4 : W4 φ ν DM) (hr : ∀ k, k ∈ runA → φ' k = φ k) : clO φ' ν' DM' x k o pre top := by
  obtain ⟨a1, a2, a3, a4, T, p0, E, lo, ν0, ν1, G, V, rm, b1, b2, b3, b4, b5, b6, b7, b8, b9⟩ := h
  obtain ⟨e1, e2⟩ := hg.fm h3 h4 a1
  unfold clO
  rw [e1, e2, hr 69 (by decide), hr 70 (by decide), hr 71 (by decide), hr 72 (by decide), hr 73 (by decide), hr 75 (by decide), hr 77 (by decide), hr 79 (by decide), hr 80 (by decide)]
  exact ⟨Nat.lt_of_lt_of_le a1 (hg.1 43 (by decide)), a2, a3, a4, T, p0, E, lo, ν0, ν1, G, V, rm, b1, b2, b3, b4, b5, b6, b7, b8.cg hr, b9⟩
theorem RC.gr (hg : Gr φ ν DM φ' ν' DM') (h3 : W3 φ ν DM) (h4 : W4 φ ν DM) (h43 : vN ν 43 ≤ 8192) (hr : ∀ k, k ∈ runA → φ' k = φ k) : ∀ {cs : List cX} {pre : List Int} {top opens : Nat}, RC φ ν DM cs pre top opens → RC φ' ν' DM' cs pre top opens
  | [], _, _, _, h => h
  | x :: r, _, _, _, h => by
    obtain ⟨o, h1, h2, h5⟩ := h
    refine ⟨o, h1, h2.gr hg h3 h4 hr, ?_⟩
    rw [(hg.fp h3 h4 (.inl h2.1) h43).2]
    exact RC.gr hg h3 h4 h43 hr h5
theorem W5.gr (h : W5 φ ν DM) (hg : Gr φ ν DM φ' ν' DM') (h3 : W3 φ ν DM) (h4 : W4 φ ν DM) (h43 : vN ν 43 ≤ 8192) (hr : ∀ k, k ∈ runA → φ' k = φ k) (hv : ∀ k, k ∈ [62, 63, 64, 68, 76, 81, 93] → ν' k = ν k) : W5 φ' ν' DM' := by
  unfold W5 vN
  rw [hv 62 (by decide), hv 63 (by decide), hv 64 (by decide), hv 68 (by decide), hv 76 (by decide), hv 81 (by decide), hv 93 (by decide)]
  intro h62
  obtain ⟨f, e1, e2, e3, e4⟩ := h h62
  refine ⟨f, e1, e2.mo hg, fun e => ?_, fun e => ?_⟩
  · rw [(hg.fp h3 h4 e2 h43).1]
    exact e3 e
  · obtain ⟨cs, top, opens, d1, d2, d3, d4⟩ := e4 e
    exact ⟨cs, top, opens, d1, d2, d3, d4.gr hg h3 h4 h43 hr⟩
/-- modules that were there before -/
def agr (φ φ' : Nat → Nat → Int32) (nm st en : Nat) : Prop := (∀ j, j < st → φ' 3 j = φ 3 j) ∧ (∀ m, m < nm → φ' 6 m = φ 6 m ∧ φ' 7 m = φ 7 m) ∧ (∀ j, j < 12 * nm → φ' 8 j = φ 8 j ∧ φ' 9 j = φ 9 j) ∧ (∀ j, j < 4 * nm → φ' 10 j = φ 10 j) ∧ ∀ j, j < en → φ' 11 j = φ 11 j ∧ φ' 12 j = φ 12 j
theorem MV.cg {D : zM} {rm rm' : Nat → Int} (h : MV D rm) (e : ∀ b, b < qt D 3 → rm' b = rm b) : MV D rm' := ⟨h.1, fun b hb => by rw [e b hb]; exact h.2 b hb⟩
theorem W2.ag {st' en' m : Nat} (h : W2 φ ν len DM) (ha : agr φ φ' (vN ν 5) (vN ν 4) (vN ν 13)) (hl : len ≤ len') (hs : vN ν 4 ≤ st') (he : vN ν 13 ≤ en') (hm : m < vN ν 5) : mdP φ' len' m (DM m) ∧ mdR (DM m) ∧ qe (DM m) ≤ st' ∧ (∀ s, s < 12 → 0 < qt (DM m) s → aV φ' 8 (12 * m + s) + qt (DM m) s ≤ en') ∧ MV (DM m) (fun b => (φ' 12 (aV φ' 8 (12 * m + 10) + b)).toInt) := by
  obtain ⟨⟨p1, p2, p3, p4, p5, p6⟩, r1, q1, s1, v1⟩ := h m hm
  obtain ⟨g3, g6, g8, g10, g11⟩ := ha
  have e8 : ∀ s, s < 12 → φ' 8 (12 * m + s) = φ 8 (12 * m + s) ∧ φ' 9 (12 * m + s) = φ 9 (12 * m + s) := fun s hs9 => g8 _ (by omega)
  have ea : ∀ s, s < 12 → aV φ' 8 (12 * m + s) = aV φ 8 (12 * m + s) := fun s hs9 => by
    unfold aV
    rw [(e8 s hs9).1]
  refine ⟨⟨p1, by rw [(g6 m hm).1]; exact p2, by rw [(g6 m hm).2]; exact p3, fun j j1 j2 => by rw [g3 j (by omega)]; exact p4 j j1 j2, fun s hs9 => ?_, fun κ hκ => by rw [g10 _ (by omega)]; exact p6 κ hκ⟩, r1, by omega, fun s hs9 h0 => by rw [ea s hs9]; have := s1 s hs9 h0; omega, v1.cg (fun b hb => ?_)⟩
  · obtain ⟨y1, f, y2, y3, y4⟩ := p5 s hs9
    rw [(e8 s hs9).1, (e8 s hs9).2]
    refine ⟨y1, f, y2, fun h0 => by have := y3 h0; omega, fun k hk => ?_⟩
    have := s1 s hs9 (by omega)
    rw [aV_of y2] at this
    rw [(g11 _ (by omega)).1]
    exact y4 k hk
  · have h10 := r1.2.2.2.2
    have := s1 10 (by decide) (by omega)
    rw [ea 10 (by decide), (g11 _ (by omega)).2]
end MW4
