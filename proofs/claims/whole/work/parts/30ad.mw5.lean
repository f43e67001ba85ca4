-- the reference: load
/-- room that the reference may still take; K calls are left -/
def rG (len rl rc rs K bc bs : Nat) : Prop := rc + (16384 - len) / 1024 + (512000 - rl) / 1024 + K ≤ bc ∧ rs + 4 * (16384 - len) + 2 * (512000 - rl) + 8 * K ≤ bs
def rQq (own : Nat → Nat) (mm : Nat) (h : xb_H) (F : Nat → Nat → Int32) (rc rs K : Nat) (Q : xb_H → Nat → Nat → Prop) : Prop := ∀ (own' A' : Nat → Nat) (h' : xb_H) (F' : Nat → Nat → Int32) (v' : Nat → Int32) (DM' : Nat → zM) (len' rl' bc' bs' : Nat), zT own own' h F h' F' → rA own' mm A' h' F' v' DM' len' rl' K → rG len' rl' rc rs K bc' bs' → Q (mH h' F' mm v') bc' bs'
section MW5
variable {own own' : Nat → Nat} {mm m : Nat} {A A' : Nat → Nat} {h h' h2 : xb_H} {F F' F2 : Nat → Nat → Int32} {v v' v2 : Nat → Int32} {D : zM} {DM DM' : Nat → zM} {len len' rl K : Nat}
theorem f0.z (hf : f0 own h F h' F') : zT own own h F h' F' := ⟨fun a ha => ⟨by rw [hf.1]; exact ha, rfl⟩, fun a ha _ => ⟨by rw [hf.1], by rw [hf.2.1], (hf.2.2.2 a ha).1, by rw [hf.2.2.1], (hf.2.2.2 a ha).2⟩⟩
theorem rG.dn {rc rs bc bs : Nat} (hg : rG len rl rc rs (K + 1) bc bs) : rG len rl rc rs K bc bs := by
  unfold rG at *
  omega
theorem rPq.Q {rc rs bc bs : Nat} {Q : xb_H → Nat → Nat → Prop} (hQ : rQq own mm h F rc rs K Q) (hg : rG len rl rc rs (K + 1) bc bs) : rPq own mm A h F DM len rl K (fun h' => Q h' bc bs) := fun h' F' v' hf hA => hQ own A h' F' v' DM len rl bc bs hf.z hA hg.dn
section
variable {φ φ' : Nat → Nat → Int32} {ν ν' : Nat → Int32}
theorem W4.ld (h4 : W4 φ ν DM) (h3 : W3 φ ν DM) (hg : Gr φ ν DM φ' ν' DM') (hk : ∀ k, k ∈ [39, 40, 41, 44, 45, 48, 49, 51, 54, 56, 59] → φ' k = φ k) (hv : ∀ k, k ∈ [30, 42, 43, 46, 47, 52, 53, 58] → ν' k = ν k) (h5 : vN ν 4 ≤ vN ν' 4) : W4 φ' ν' DM' := by
  obtain ⟨a1, a2, a3, a4, a5, a6, a7⟩ := h4
  have e : ∀ k, k ∈ [30, 42, 43, 46, 47, 52, 53, 58] → vN ν' k = vN ν k := fun k hk => by
    unfold vN
    rw [hv k hk]
  unfold W4
  rw [e 30 (by decide), e 42 (by decide), e 43 (by decide), e 46 (by decide), e 47 (by decide), e 52 (by decide), e 53 (by decide), e 58 (by decide), hk 39 (by decide), hk 40 (by decide), hk 41 (by decide), hk 44 (by decide), hk 45 (by decide), hk 48 (by decide), hk 49 (by decide), hk 51 (by decide), hk 54 (by decide), hk 56 (by decide), hk 59 (by decide)]
  refine ⟨fun f hf => ?_, a2, fun j hj => (a3 j hj).imp id (fun ⟨f, e1, e2⟩ => ⟨f, e1, e2.mo hg⟩), a4, a5, a6, fun k hk9 => ?_⟩
  · obtain ⟨i, b, e1, e2, e3, e4⟩ := a1 f hf
    obtain ⟨m, ip, ofn, ov, ot, om, ⟨d1, -⟩, ⟨d2, -⟩, -⟩ := h3 i e3
    refine ⟨i, b, e1, e2, e3, ?_⟩
    rw [hg.im e3, aV_of d1, hg.2.1 m d2]
    rw [aV_of d1] at e4
    exact e4
  · obtain ⟨nf, ns, no, e1, e2, e3, e4, e5⟩ := a7 k hk9
    exact ⟨nf, ns, no, e1, e2, e3, by omega, e5⟩
/-- the world after a load: D is new, if it is there -/
theorem RX.ld {st' en' nm' : Nat} (h : RX φ ν len DM) (h43 : vN ν 43 ≤ 8192) (ha : agr φ φ' (vN ν 5) (vN ν 4) (vN ν 13)) (hl : len ≤ len') (hk : ∀ k, k ∈ [31, 32, 33, 35, 36, 37, 38, 39, 40, 41, 44, 45, 48, 49, 51, 54, 56, 59, 69, 70, 71, 72, 73, 75, 77, 78, 79, 80] → φ' k = φ k) (hv : ∀ k, k ∈ [30, 34, 42, 43, 46, 47, 52, 53, 58, 62, 63, 64, 68, 76, 81, 93] → ν' k = ν k) (h4 : vN ν' 4 = st') (h13 : vN ν' 13 = en') (h5 : vN ν' 5 = nm') (hs : vN ν 4 ≤ st') (he : vN ν 13 ≤ en')
    (hn : (nm' = vN ν 5 ∧ DM' = DM) ∨ (nm' = vN ν 5 + 1 ∧ DM' = va_up DM (vN ν 5) D ∧ mdP φ' len' (vN ν 5) D ∧ mdR D ∧ qe D ≤ st' ∧ (∀ s, s < 12 → 0 < qt D s → aV φ' 8 (12 * vN ν 5 + s) + qt D s ≤ en') ∧ MV D (fun b => (φ' 12 (aV φ' 8 (12 * vN ν 5 + 10) + b)).toInt))) : RX φ' ν' len' DM' := by
  obtain ⟨b2, b3, b4, b5⟩ := h
  have ev : ∀ k, k ∈ [30, 34, 42, 43, 46, 47, 52, 53, 58, 62, 63, 64, 68, 76, 81, 93] → vN ν' k = vN ν k := fun k hk => by
    unfold vN
    rw [hv k hk]
  have hD : ∀ m, m < vN ν 5 → DM' m = DM m := fun m hm => by
    rcases hn with ⟨-, e⟩ | ⟨-, e, -⟩
    · rw [e]
    · rw [e, xh_up, if_neg (by omega)]
  have hg : Gr φ ν DM φ' ν' DM' := by
    refine ⟨fun k hk9 => ?_, hD, fun k hk9 i _ => ?_, fun j _ => by rw [hk 33 (by decide)], fun f _ => by rw [hk 44 (by decide), hk 45 (by decide)]; exact ⟨rfl, rfl⟩, fun g _ => by rw [hk 59 (by decide)]⟩
    · by_cases h9 : k = 5
      · rw [h9, h5]
        omega
      · have : ∀ k, k ∈ [5, 30, 34, 43, 46, 52, 58] → k ≠ 5 → k ∈ [30, 34, 42, 43, 46, 47, 52, 53, 58, 62, 63, 64, 68, 76, 81, 93] := by decide
        rw [ev k (this k hk9 h9)]
        exact Nat.le_refl _
    · have : ∀ k, k ∈ [31, 32, 35, 36, 37, 38] → k ∈ [31, 32, 33, 35, 36, 37, 38, 39, 40, 41, 44, 45, 48, 49, 51, 54, 56, 59, 69, 70, 71, 72, 73, 75, 77, 78, 79, 80] := by decide
      rw [hk k (this k hk9)]
  refine ⟨fun m hm => ?_, fun i hi => ?_, ?_, ?_⟩
  · rw [h5] at hm
    rw [h4, h13]
    by_cases hm9 : m < vN ν 5
    · rw [hD m hm9]
      exact b2.ag ha hl hs he hm9
    · rcases hn with ⟨e, -⟩ | ⟨e, e2, e3⟩
      · omega
      · have : m = vN ν 5 := by omega
        subst this
        rw [e2, xh_up, if_pos rfl]
        exact e3
  · rw [ev 30 (by decide)] at hi
    exact (b3 i hi).gr hi hg b3 b4 h43
  · refine b4.ld b3 hg (fun k hk9 => hk k ?_) (fun k hk9 => hv k ?_) (by omega)
    · have : ∀ k, k ∈ [39, 40, 41, 44, 45, 48, 49, 51, 54, 56, 59] → k ∈ [31, 32, 33, 35, 36, 37, 38, 39, 40, 41, 44, 45, 48, 49, 51, 54, 56, 59, 69, 70, 71, 72, 73, 75, 77, 78, 79, 80] := by decide
      exact this k hk9
    · have : ∀ k, k ∈ [30, 42, 43, 46, 47, 52, 53, 58] → k ∈ [30, 34, 42, 43, 46, 47, 52, 53, 58, 62, 63, 64, 68, 76, 81, 93] := by decide
      exact this k hk9
  · refine b5.gr hg b3 b4 h43 (fun k hk9 => hk k ?_) (fun k hk9 => hv k ?_)
    · have : ∀ k, k ∈ runA → k ∈ [31, 32, 33, 35, 36, 37, 38, 39, 40, 41, 44, 45, 48, 49, 51, 54, 56, 59, 69, 70, 71, 72, 73, 75, 77, 78, 79, 80] := by decide
      exact this k hk9
    · have : ∀ k, k ∈ [62, 63, 64, 68, 76, 81, 93] → k ∈ [30, 34, 42, 43, 46, 47, 52, 53, 58, 62, 63, 64, 68, 76, 81, 93] := by decide
      exact this k hk9
end
end MW5
