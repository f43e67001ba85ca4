-- a module becomes an instance: the world with one more
def wN1 (W : wD) (md : Nat) (d : mD) (q : Nat) (ms : Nat → Nat) : wD :=
  (wic W + 1, va_up (wia W) (wic W) q, va_up (wim W) (wic W) md, va_up (wMD W) (wic W) d, va_up (wff W) (wic W) (wno W), va_up (wfv W) (wic W) (wnv W), (fun f => if f < wno W then wfo W f else wic W), wno W + (nf d - ni d 0), (fun v => if v < wnv W then wvt W v else (dvs d 5 (4 * (ni d 3 + (v - wnv W)) + 1)).toInt), wnv W + (nvr d - ni d 3), wne W + (ol d 3 1).toNat, wnp W + (ol d 4 2).toNat, ms)
/-- W2 has all that W has, and maybe more -/
def wle (h : xb_H) (W W2 : wD) : Prop :=
  (∀ i, i < wic W → wia W2 i = wia W i ∧ wim W2 i = wim W i ∧ wd W2 i = wd W i ∧ wff W2 i = wff W i ∧ wfv W2 i = wfv W i) ∧ (∀ f, f < wno W → wfo W2 f = wfo W f ∧ wfo W f < wic W) ∧ (wic W ≤ wic W2 ∧ wno W ≤ wno W2 ∧ wnv W ≤ wnv W2 ∧ wne W ≤ wne W2 ∧ wnp W ≤ wnp W2) ∧ wno W ≤ 8192 ∧ (∀ v, v < wnv W → wvt W2 v = wvt W v) ∧ ∀ a, xb_k h a ≠ 0 → wms W2 a = wms W a
section MK3
variable {own own' ad ad' : Nat → Nat} {h h' : xb_H} {W W2 : wD} {σ : Nat}
theorem vf.mono {f : Nat} (hl : wle h W W2) (hf : vf W f) : vf W2 f := by
  obtain ⟨-, -, ⟨-, h1, -⟩, -⟩ := hl
  rcases hf with h9 | h9
  · exact .inl (by omega)
  · exact .inr h9
theorem fT_mono {f : Nat} (hl : wle h W W2) (hf : vf W f) : fT W2 f = fT W f := by
  obtain ⟨h1, h2, h3, h4, -⟩ := hl
  unfold fT
  rcases hf with h9 | h9
  · rw [if_neg (by omega), if_neg (by omega)]
    obtain ⟨e1, e2⟩ := h2 f h9
    obtain ⟨-, -, e3, e4, -⟩ := h1 _ e2
    rw [e1, e3, e4]
  · rw [if_pos h9.1, if_pos h9.1]
theorem tO.mono {ta : Nat} (hl : wle h W W2) (ht : tO own h' W ta) : tO own h' W2 ta := by
  obtain ⟨-, -, ⟨-, -, -, h1, -⟩, -⟩ := hl
  obtain ⟨t1, t2, fr, sz, t3, t4, t5⟩ := ht
  exact ⟨t1, t2, fr, sz, t3, t4, by omega⟩
theorem mO.mono {ma : Nat} (hl : wle h W W2) (hm : mO own ad h W ma) : mO own ad h W2 ma := by
  obtain ⟨-, -, ⟨-, -, -, -, h1⟩, -, -, h2⟩ := hl
  obtain ⟨t1, t2, t3, t4, sl, pc, t5, t6, t7, t8, t9, t10, t11, t12⟩ := hm
  exact ⟨t1, t2, t3, t4, sl, pc, t5, t6, t7, by rw [h2 sl (by omega)]; exact t8, t9, t10, by omega, fun j hj => by have := t12 j hj; omega⟩
theorem iO.mono {i : Nat} (hl : wle h W W2) (hi : i < wic W) (hO : iO own ad h W i) : iO own ad h W2 i := by
  obtain ⟨e1, e2, e3, e4, e5⟩ := hl.1 i hi
  have hfo := hl.2.1
  have hlv := hl.2.2.1
  have hvt := hl.2.2.2.2.1
  obtain ⟨a, ⟨fa, b1, b2, b3, b4, b5⟩, ⟨va, c1, c2, c3, c4, c5⟩, ⟨d1, d2, d3⟩, ⟨f1, f2, f3⟩, ⟨g1, g2⟩, g3, g4⟩ := hO
  unfold iO
  rw [e1, e2, e3, e4, e5]
  refine ⟨a, ⟨fa, b1, b2, b3, b4, fun k hk => ?_⟩, ⟨va, c1, c2, c3, c4, fun k hk => ?_⟩, ⟨d1, by omega, fun k hk => ?_⟩, ⟨f1, by omega, fun k hk => ?_⟩, ⟨g1, fun ta h9 => (g2 ta h9).mono hl⟩, g3, fun ma h9 => (g4 ma h9).mono hl⟩
  · obtain ⟨f, p1, p2, p3⟩ := b5 k hk
    exact ⟨f, p1, p2.mono hl, by rw [fT_mono hl p2]; exact p3⟩
  · obtain ⟨v, p1, p2, p3⟩ := c5 k hk
    exact ⟨v, p1, by omega, by rw [hvt v p2]; exact p3⟩
  · rw [(hfo _ (by omega)).1]
    exact d3 k hk
  · rw [hvt _ (by omega)]
    exact f3 k hk
theorem wN1_le {md q : Nat} {d : mD} {ms : Nat → Nat} (hW : wI own ad h W σ) (hms : ∀ a, xb_k h a ≠ 0 → ms a = wms W a) : wle h W (wN1 W md d q ms) := by
  obtain ⟨⟨o1, o2, o3⟩, -⟩ := hW
  refine ⟨fun i hi => ?_, fun f hf => ⟨if_pos hf, (o3 f hf).2.1⟩, ⟨Nat.le_succ _, Nat.le_add_right _ _, Nat.le_add_right _ _, Nat.le_add_right _ _, Nat.le_add_right _ _⟩, o2, fun v hv => if_pos hv, hms⟩
  have hne : i ≠ wic W := by omega
  refine ⟨?_, ?_, ?_, ?_, ?_⟩
  · show va_up (wia W) (wic W) q i = _; rw [xh_up, if_neg hne]
  · show va_up (wim W) (wic W) md i = _; rw [xh_up, if_neg hne]
  · show va_up (wMD W) (wic W) d i = _; rw [xh_up, if_neg hne]; rfl
  · show va_up (wff W) (wic W) (wno W) i = _; rw [xh_up, if_neg hne]
  · show va_up (wfv W) (wic W) (wnv W) i = _; rw [xh_up, if_neg hne]
def mkC : List Nat := [14, 18, 19, 20, 21, 22, 23, 24, 25, 26]
theorem mkC_lt : ∀ k ∈ mkC, k < 41 := by decide
/-- all that is wanted of a heap in which the new instance stands -/
theorem mk_asm {md q : Nat} {d : mD} {ms : Nat → Nat} (hB : cB own ad h) (hW : wI own ad h W σ) (hm : mo own h md d) (hms : ∀ a, xb_k h a ≠ 0 → ms a = wms W a) (hs : stp mkC [] own ad own' ad' h h') (hic : wic W < 24) (hno : wno W + (nf d - ni d 0) ≤ 8192) (hnv : wnv W + (nvr d - ni d 3) ≤ 4096) (hne : (wne W : Int) + ol d 3 1 ≤ 16384) (hnp : (wnp W : Int) + ol d 4 2 ≤ 16)
    (hO : xr_row h' (ad' 19) 1 (wno W + (nf d - ni d 0)) (ad' 20) ∧ (∀ f, f < wno W → xb_l h' (ad' 20) f = xb_l h (ad 20) f) ∧ ∀ f, wno W ≤ f → f < wno W + (nf d - ni d 0) → (xb_l h' (ad' 20) f).toInt = wic W)
    (hV : xr_row h' (ad' 21) 1 (wnv W + (nvr d - ni d 3)) (ad' 22) ∧ (∀ v, v < wnv W → xb_l h' (ad' 22) v = xb_l h (ad 22) v) ∧ ∀ j, j < nvr d - ni d 3 → vr (dvs d 5 (4 * (ni d 3 + j) + 1)).toInt (xb_l h' (ad' 22) (wnv W + j)))
    (hE : xr_row h' (ad' 23) 1 (wne W + (ol d 3 1).toNat) (ad' 24) ∧ (∀ e, e < wne W → xb_l h' (ad' 24) e = xb_l h (ad 24) e) ∧ ∀ e, wne W ≤ e → e < wne W + (ol d 3 1).toNat → (xb_l h' (ad' 24) e).toInt = -1)
    (hP : xr_row h' (ad' 25) 1 (8192 * (wnp W + (ol d 4 2).toNat)) (ad' 26))
    (hI : (xb_i h' (ad 14) 1).toInt = (wic W + 1 : Nat) ∧ xb_i h' (ad 14) 11 = xb_i h (ad 14) 11) (hA : xb_r h' (ad 18) = va_up (xb_r h (ad 18)) (wic W) (some q)) (hN : iO own' ad' h' (wN1 W md d q ms) (wic W)) : wI own' ad' h' (wN1 W md d q ms) σ := by
  have hl := wN1_le (md := md) (q := q) (d := d) hW hms
  obtain ⟨⟨o1, o2, o3⟩, ⟨v1, v2, v3⟩, ⟨e1, e2, e3⟩, ⟨w1, w2⟩, ⟨un, u1, u2⟩, ⟨nn, ns, n1, n2, n3, n4, n5⟩, ⟨l1, l2, l3, l4⟩, ⟨⟨g1n, g1⟩, g2n, g2⟩, ⟨s1, s2, s3⟩⟩ := id hW
  have he := hs.2.2.2.1
  have ho := hs.2.2.1
  have cm : ∀ k, k < 41 → k ∉ mkC → ad' k = ad k ∧ xh_sm h h' (ad k) := fun k hk hn => hs.cm hB mkC_lt (fun x hx => by cases hx) hk hn
  have A : ∀ k, k ∉ itl → ad' k = ad k := hs.2.2.2.2.2.2
  have a14 := A 14 (by decide)
  have a18 := A 18 (by decide)
  have a19 := A 19 (by decide)
  have a21 := A 21 (by decide)
  have a23 := A 23 (by decide)
  have a25 := A 25 (by decide)
  have r18 : xb_n h' (ad 18) = xb_n h (ad 18) := (he _ (hB.z 18 (by omega))).2
  have n31 : xb_n h' (ad 31) = xb_n h (ad 31) := (he _ (hB.z 31 (by omega))).2
  have sm1 : ∀ a t, xb_k h a ≠ 0 → own a = t → t < 2 ∨ 42 < t → xh_sm h h' a := fun a t ha h1 h2 => hs.n1 hB mkC_lt ha (by simp) h1 h2
  obtain ⟨c27, s27⟩ := cm 27 (by omega) (by decide)
  obtain ⟨c28, s28⟩ := cm 28 (by omega) (by decide)
  obtain ⟨c29, s29⟩ := cm 29 (by omega) (by decide)
  obtain ⟨c30, s30⟩ := cm 30 (by omega) (by decide)
  obtain ⟨c31, s31⟩ := cm 31 (by omega) (by decide)
  obtain ⟨c32, s32⟩ := cm 32 (by omega) (by decide)
  obtain ⟨c33, s33⟩ := cm 33 (by omega) (by decide)
  obtain ⟨c34, s34⟩ := cm 34 (by omega) (by decide)
  obtain ⟨c35, s35⟩ := cm 35 (by omega) (by decide)
  have p3 := (ol_rg hm (.inl ⟨rfl, rfl⟩)).1
  have p4 := (ol_rg hm (.inr ⟨rfl, rfl⟩)).1
  have dW : wd (wN1 W md d q ms) (wic W) = d := by show va_up (wMD W) (wic W) d (wic W) = d; rw [xh_up, if_pos rfl]
  have fW : wff (wN1 W md d q ms) (wic W) = wno W := by show va_up (wff W) (wic W) (wno W) (wic W) = _; rw [xh_up, if_pos rfl]
  refine ⟨⟨hO.1, hno, fun f hf => ?_⟩, ⟨hV.1, hnv, fun v hv => ?_⟩, ⟨hE.1, ?_, fun e h9 => ?_⟩, ⟨hP, ?_⟩, ⟨un, by rw [c27, c28]; exact u1.fr s27 he, u2⟩, ⟨nn, ns, by rw [c29, c30]; exact n1.fr s29 he, by rw [a14, hI.2]; exact n2, by rw [c31, n31]; exact n3, by rw [c31, n31]; exact n4, fun k hk => ?_⟩, ⟨by rw [a18, r18]; exact l1, hic, by rw [a14]; exact hI.1, fun i hi => ?_⟩, ⟨⟨g1n, by rw [c32, c33]; exact g1.fr s32 he⟩, g2n, by rw [c34, c35]; exact g2.fr s34 he⟩, ⟨trivial, trivial, trivial⟩⟩
  · by_cases hf2 : f < wno W
    · obtain ⟨x1, x2, x3, x4⟩ := o3 f hf2
      have ef : wfo (wN1 W md d q ms) f = wfo W f := if_pos hf2
      obtain ⟨-, -, y3, y4, -⟩ := hl.1 _ x2
      rw [ef, y3, y4, hO.2.1 f hf2]
      refine ⟨x1, ?_, x3, x4⟩
      show wfo W f < wic W + 1
      omega
    · have ef : wfo (wN1 W md d q ms) f = wic W := if_neg hf2
      have hf3 : f < wno W + (nf d - ni d 0) := hf
      rw [ef, dW, fW]
      refine ⟨hO.2.2 f (by omega) hf, ?_, by omega, hf3⟩
      show wic W < wic W + 1
      omega
  · by_cases hv2 : v < wnv W
    · have ev : wvt (wN1 W md d q ms) v = wvt W v := if_pos hv2
      rw [ev, hV.2.1 v hv2]
      exact v3 v hv2
    · have ev : wvt (wN1 W md d q ms) v = (dvs d 5 (4 * (ni d 3 + (v - wnv W)) + 1)).toInt := if_neg hv2
      have hv3 : v < wnv W + (nvr d - ni d 3) := hv
      have x1 := hV.2.2 (v - wnv W) (by omega)
      rw [show wnv W + (v - wnv W) = v by omega] at x1
      rw [ev]
      obtain ⟨-, x2, x3, -⟩ := hm.var (i := ni d 3 + (v - wnv W)) (by omega)
      exact ⟨⟨x2, x3⟩, x1⟩
  · show wne W + (ol d 3 1).toNat ≤ 16384
    omega
  · by_cases h8 : e < wne W
    · rw [hE.2.1 e h8]
      rcases e3 e h8 with x1 | ⟨f, x1, x2⟩
      · exact .inl x1
      · exact .inr ⟨f, x1, x2.mono hl⟩
    · exact .inl (hE.2.2 e (by omega) h9)
  · show wnp W + (ol d 4 2).toNat ≤ 16
    omega
  · rw [c30, s30.2.1]
    obtain ⟨x1, x2, x3, x4, x5⟩ := n5 k hk
    refine ⟨x1, x2, x3, x4, ?_⟩
    show _ < ((wic W + 1 : Nat) : Int)
    omega
  · rw [a18, hA]
    have hi2 : i < wic W + 1 := hi
    by_cases h8 : i = wic W
    · subst h8
      refine ⟨?_, hN⟩
      rw [xh_up, if_pos rfl]
      show _ = some (va_up (wia W) (wic W) q (wic W))
      rw [xh_up, if_pos rfl]
    · have hi3 : i < wic W := by omega
      refine ⟨?_, ((l4 i hi3).2.mono hl hi3).fr (fun a ha h9 => sm1 a (own a) ha rfl (by omega)) he ho (by rw [a25])⟩
      rw [xh_up, if_neg h8, (hl.1 i hi3).1]
      exact (l4 i hi3).1
end MK3
