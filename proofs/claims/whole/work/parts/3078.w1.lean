-- the world of the class: what it holds
def tyf (d : mD) (t : Nat) : List Int × Int := (ptl (dcb d) (dvs d 0 (5 * t + 1)).toInt.toNat (dvs d 0 (5 * t + 2)).toInt.toNat, (dvs d 0 (5 * t + 4)).toInt)
/-- the type of a function by its number in a module -/
def ftm (d : mD) (k : Nat) : List Int × Int := tyf d (dvs d 2 (2 * k + 1)).toInt.toNat
def nf (d : mD) : Nat := dn d 2 / 2
def nvr (d : mD) : Nat := dn d 5 / 4
def ni (d : mD) (κ : Nat) : Nat := (div_ d κ).toInt.toNat
/-- instances: how many, where, whose module, the modules' data, first functions and variables; whose a function is, how many functions; types of variables, how many; how many elements and pages; whose a row of slots is -/
abbrev wD : Type := Nat × (Nat → Nat) × (Nat → Nat) × (Nat → mD) × (Nat → Nat) × (Nat → Nat) × (Nat → Nat) × Nat × (Nat → Int) × Nat × Nat × Nat × (Nat → Nat)
def wic (W : wD) : Nat := W.1
def wia (W : wD) : Nat → Nat := W.2.1
def wim (W : wD) : Nat → Nat := W.2.2.1
def wMD (W : wD) : Nat → mD := W.2.2.2.1
def wff (W : wD) : Nat → Nat := W.2.2.2.2.1
def wfv (W : wD) : Nat → Nat := W.2.2.2.2.2.1
def wfo (W : wD) : Nat → Nat := W.2.2.2.2.2.2.1
def wno (W : wD) : Nat := W.2.2.2.2.2.2.2.1
def wvt (W : wD) : Nat → Int := W.2.2.2.2.2.2.2.2.1
def wnv (W : wD) : Nat := W.2.2.2.2.2.2.2.2.2.1
def wne (W : wD) : Nat := W.2.2.2.2.2.2.2.2.2.2.1
def wnp (W : wD) : Nat := W.2.2.2.2.2.2.2.2.2.2.2.1
def wms (W : wD) : Nat → Nat := W.2.2.2.2.2.2.2.2.2.2.2.2
def wd (W : wD) (i : Nat) : mD := wMD W i
/-- short numbers are kept without a sign -/
def vr (τ : Int) (v : Int64) : Prop := (τ = 127 ∨ τ = 125) → 0 ≤ v.toInt ∧ v.toInt < 4294967296
def vf (W : wD) (f : Nat) : Prop := f < wno W ∨ (8192 ≤ f ∧ f < 8196)
def fT (W : wD) (f : Nat) : List Int × Int := if 8192 ≤ f then ([127 - ((f : Int) - 8192)], 64) else ftm (wd W (wfo W f)) (f - wff W (wfo W f) + ni (wd W (wfo W f)) 0)
def tO (own : Nat → Nat) (h : xb_H) (W : wD) (ta : Nat) : Prop :=
  xb_k h ta = 12 ∧ own ta = 1 ∧ ∃ fr sz : Nat, (xb_i h ta 0).toInt = fr ∧ (xb_i h ta 1).toInt = sz ∧ fr + sz ≤ wne W
def mO (own ad : Nat → Nat) (h : xb_H) (W : wD) (ma : Nat) : Prop :=
  xb_k h ma = 13 ∧ own ma = 50 ∧ xb_r h ma 0 = some (ad 25) ∧ ((xb_l h ma 1).toInt = -1 ∨ 0 ≤ (xb_l h ma 1).toInt ∧ (xb_l h ma 1).toInt ≤ 65536) ∧ ∃ sl pc : Nat, xb_r h ma 2 = some sl ∧ xb_k h sl = 102 ∧ own sl = 51 ∧ wms W sl = ma ∧ xb_n h sl = 16 ∧ (xb_i h ma 3).toInt = pc ∧ pc ≤ wnp W ∧ ∀ j, j < pc → 0 ≤ (xb_i h sl j).toInt ∧ (xb_i h sl j).toInt < wnp W
/-- an instance -/
def iO (own ad : Nat → Nat) (h : xb_H) (W : wD) (i : Nat) : Prop :=
  (xb_k h (wia W i) = 11 ∧ own (wia W i) = 1 ∧ (xb_i h (wia W i) 0).toInt = i ∧ xb_r h (wia W i) 1 = some (wim W i) ∧ mo own h (wim W i) (wd W i)) ∧
  (∃ fa, xb_r h (wia W i) 2 = some fa ∧ xb_k h fa = 103 ∧ own fa = 1 ∧ xb_n h fa = ni (wd W i) 0 ∧ ∀ k, k < ni (wd W i) 0 → ∃ f : Nat, (xb_l h fa k).toInt = f ∧ vf W f ∧ fT W f = ftm (wd W i) k) ∧
  (∃ va, xb_r h (wia W i) 3 = some va ∧ xb_k h va = 103 ∧ own va = 1 ∧ xb_n h va = ni (wd W i) 3 ∧ ∀ k, k < ni (wd W i) 3 → ∃ v : Nat, (xb_l h va k).toInt = v ∧ v < wnv W ∧ wvt W v = (dvs (wd W i) 5 (4 * k + 1)).toInt) ∧
  ((xb_i h (wia W i) 4).toInt = wff W i ∧ wff W i + (nf (wd W i) - ni (wd W i) 0) ≤ wno W ∧ ∀ k, k < nf (wd W i) - ni (wd W i) 0 → wfo W (wff W i + k) = i) ∧
  ((xb_i h (wia W i) 5).toInt = wfv W i ∧ wfv W i + (nvr (wd W i) - ni (wd W i) 3) ≤ wnv W ∧ ∀ k, k < nvr (wd W i) - ni (wd W i) 3 → wvt W (wfv W i + k) = (dvs (wd W i) 5 (4 * (ni (wd W i) 3 + k) + 1)).toInt) ∧
  ((0 < dn (wd W i) 3 / 3 → ∃ ta, xb_r h (wia W i) 6 = some ta) ∧ ∀ ta, xb_r h (wia W i) 6 = some ta → tO own h W ta) ∧
  ((0 < dn (wd W i) 4 / 3 → ∃ ma, xb_r h (wia W i) 7 = some ma) ∧ ∀ ma, xb_r h (wia W i) 7 = some ma → mO own ad h W ma)
def wO (ad : Nat → Nat) (h : xb_H) (W : wD) : Prop := xr_row h (ad 19) 1 (wno W) (ad 20) ∧ wno W ≤ 8192 ∧ ∀ f, f < wno W → (xb_l h (ad 20) f).toInt = wfo W f ∧ wfo W f < wic W ∧ wff W (wfo W f) ≤ f ∧ f < wff W (wfo W f) + (nf (wd W (wfo W f)) - ni (wd W (wfo W f)) 0)
def wV (ad : Nat → Nat) (h : xb_H) (W : wD) : Prop := xr_row h (ad 21) 1 (wnv W) (ad 22) ∧ wnv W ≤ 4096 ∧ ∀ v, v < wnv W → (124 ≤ wvt W v ∧ wvt W v ≤ 127) ∧ vr (wvt W v) (xb_l h (ad 22) v)
def wE (ad : Nat → Nat) (h : xb_H) (W : wD) : Prop := xr_row h (ad 23) 1 (wne W) (ad 24) ∧ wne W ≤ 16384 ∧ ∀ e, e < wne W → (xb_l h (ad 24) e).toInt = -1 ∨ ∃ f : Nat, (xb_l h (ad 24) e).toInt = f ∧ vf W f
def wW (ad : Nat → Nat) (h : xb_H) (W : wD) : Prop := xr_row h (ad 25) 1 (8192 * wnp W) (ad 26) ∧ wnp W ≤ 16
def wU (ad : Nat → Nat) (h : xb_H) : Prop := ∃ n : Nat, xr_row h (ad 27) 1 n (ad 28) ∧ n ≤ 4096
def wN (ad : Nat → Nat) (h : xb_H) (W : wD) : Prop := ∃ nn ns : Nat, xr_row h (ad 29) 3 (3 * nn) (ad 30) ∧ (xb_i h (ad 14) 11).toInt = ns ∧ ns ≤ xb_n h (ad 31) ∧ xb_n h (ad 31) ≤ 1000000 ∧ ∀ k, k < nn → 0 ≤ (xb_l h (ad 30) (3 * k)).toInt ∧ 0 ≤ (xb_l h (ad 30) (3 * k + 1)).toInt ∧ (xb_l h (ad 30) (3 * k)).toInt + (xb_l h (ad 30) (3 * k + 1)).toInt ≤ ns ∧ 0 ≤ (xb_l h (ad 30) (3 * k + 2)).toInt ∧ (xb_l h (ad 30) (3 * k + 2)).toInt < wic W
def wL (own ad : Nat → Nat) (h : xb_H) (W : wD) : Prop := xb_n h (ad 18) = 24 ∧ wic W ≤ 24 ∧ (xb_i h (ad 14) 1).toInt = wic W ∧ ∀ i, i < wic W → xb_r h (ad 18) i = some (wia W i) ∧ iO own ad h W i
def wG (ad : Nat → Nat) (h : xb_H) : Prop := (∃ n : Nat, xr_row h (ad 32) 1 n (ad 33)) ∧ ∃ n : Nat, xr_row h (ad 34) 1 n (ad 35)
def wS (_ : Nat → Nat) (_ : xb_H) (_ : Nat) : Prop := True ∧ True ∧ True
def wI (own ad : Nat → Nat) (h : xb_H) (W : wD) (σ : Nat) : Prop := wO ad h W ∧ wV ad h W ∧ wE ad h W ∧ wW ad h W ∧ wU ad h ∧ wN ad h W ∧ wL own ad h W ∧ wG ad h ∧ wS own h σ
section W1
variable {own own' ad ad' : Nat → Nat} {h h' : xb_H} {W : wD} {σ : Nat}
theorem tO.fr {ta : Nat} (ht : tO own h W ta) (hs : ∀ a, xb_k h a ≠ 0 → own a = 1 → xh_sm h h' a) (he : xb_ext h h') (ho : ∀ a, xb_k h a ≠ 0 → own' a = own a) : tO own' h' W ta := by
  obtain ⟨t1, t2, fr, sz, t3, t4, t5⟩ := ht
  have z : xb_k h ta ≠ 0 := by omega
  have s := hs ta z t2
  exact ⟨he.k (c := 11) t1, by rw [ho ta z]; exact t2, fr, sz, by rw [s.1]; exact t3, by rw [s.1]; exact t4, t5⟩
theorem mO.fr {ma : Nat} (hm : mO own ad h W ma) (hs : ∀ a, xb_k h a ≠ 0 → (own a = 50 ∨ own a = 51) → xh_sm h h' a) (he : xb_ext h h') (ho : ∀ a, xb_k h a ≠ 0 → own' a = own a) (ha : ad' 25 = ad 25) : mO own' ad' h' W ma := by
  obtain ⟨t1, t2, t3, t4, sl, pc, t5, t6, t7, t8, t9, t10, t11, t12⟩ := hm
  have z : xb_k h ma ≠ 0 := by omega
  have z2 : xb_k h sl ≠ 0 := by omega
  have s := hs ma z (.inl t2)
  have s2 := hs sl z2 (.inr t7)
  exact ⟨he.k (c := 12) t1, by rw [ho ma z]; exact t2, by rw [s.2.2, ha]; exact t3, by rw [s.2.1]; exact t4, sl, pc, by rw [s.2.2]; exact t5, he.k (c := 101) t6, by rw [ho sl z2]; exact t7, t8, by rw [he.n (c := 101) t6]; exact t9, by rw [s.1]; exact t10, t11, fun j hj => by rw [s2.1]; exact t12 j hj⟩
theorem iO.fr {i : Nat} (hi : iO own ad h W i) (hs : ∀ a, xb_k h a ≠ 0 → (own a = 1 ∨ own a = 50 ∨ own a = 51) → xh_sm h h' a) (he : xb_ext h h') (ho : ∀ a, xb_k h a ≠ 0 → own' a = own a) (ha : ad' 25 = ad 25) : iO own' ad' h' W i := by
  obtain ⟨⟨a1, a2, a3, a4, a5⟩, ⟨fa, b1, b2, b3, b4, b5⟩, ⟨va, c1, c2, c3, c4, c5⟩, ⟨d1, d2⟩, ⟨e1, e2⟩, ⟨f1, f2⟩, g1, g2⟩ := hi
  have z : xb_k h (wia W i) ≠ 0 := by omega
  have s := hs _ z (.inl a2)
  have zf : xb_k h fa ≠ 0 := by omega
  have zv : xb_k h va ≠ 0 := by omega
  have sf := hs _ zf (.inl b3)
  have sv := hs _ zv (.inl c3)
  refine ⟨⟨he.k (c := 10) a1, by rw [ho _ z]; exact a2, by rw [s.1]; exact a3, by rw [s.2.2]; exact a4, a5.fr (fun a h1 h2 => hs a h1 (.inl h2)) he (fun a h1 h2 => by rw [ho a h1]; exact h2)⟩, ⟨fa, by rw [s.2.2]; exact b1, he.k (c := 102) b2, by rw [ho _ zf]; exact b3, by rw [he.n (c := 102) b2]; exact b4, fun k hk => by rw [sf.2.1]; exact b5 k hk⟩, ⟨va, by rw [s.2.2]; exact c1, he.k (c := 102) c2, by rw [ho _ zv]; exact c3, by rw [he.n (c := 102) c2]; exact c4, fun k hk => by rw [sv.2.1]; exact c5 k hk⟩, ⟨by rw [s.1]; exact d1, d2⟩, ⟨by rw [s.1]; exact e1, e2⟩, ⟨by rw [s.2.2]; exact f1, fun ta h9 => ?_⟩, by rw [s.2.2]; exact g1, fun ma h9 => ?_⟩
  · rw [s.2.2] at h9
    exact (f2 ta h9).fr (fun a h1 h2 => hs a h1 (.inl h2)) he ho
  · rw [s.2.2] at h9
    exact (g2 ma h9).fr (fun a h1 h2 => hs a h1 (.inr h2)) he ho ha
/-- what lies in the world's own rows -/
def wtg (t : Nat) : Prop := t = 1 ∨ t = 16 ∨ (20 ≤ t ∧ t ≤ 37) ∨ t = 50 ∨ t = 51
theorem wI.fr (hB : cB own ad h) (hW : wI own ad h W σ) (hs : ∀ a, xb_k h a ≠ 0 → wtg (own a) → xh_sm h h' a) (he : xb_ext h h') (ho : ∀ a, xb_k h a ≠ 0 → own' a = own a) (ha : ∀ k, k = 14 ∨ (18 ≤ k ∧ k ≤ 35) → ad' k = ad k) : wI own' ad' h' W σ := by
  obtain ⟨⟨o1, o2, o3⟩, ⟨v1, v2, v3⟩, ⟨e1, e2, e3⟩, ⟨w1, w2⟩, ⟨un, u1, u2⟩, ⟨nn, ns, n1, n2, n3, n4, n5⟩, ⟨l1, l2, l3, l4⟩, ⟨⟨g1n, g1⟩, g2n, g2⟩, ⟨s1, s2, s3⟩⟩ := hW
  have sm : ∀ k, k < 41 → k = 14 ∨ (18 ≤ k ∧ k ≤ 35) → xh_sm h h' (ad k) := fun k hk h9 => hs _ (hB.z k hk) (by rw [hB.o k hk]; unfold wtg; omega)
  have nn' : ∀ k, k < 41 → xb_n h' (ad k) = xb_n h (ad k) := fun k hk => (he _ (hB.z k hk)).2
  have A : ∀ k, k = 14 ∨ (18 ≤ k ∧ k ≤ 35) → ad' k = ad k := ha
  refine ⟨⟨?_, o2, fun f hf => ?_⟩, ⟨?_, v2, fun v hv => ?_⟩, ⟨?_, e2, fun e h9 => ?_⟩, ⟨?_, w2⟩, ⟨un, ?_, u2⟩, ⟨nn, ns, ?_, ?_, ?_, ?_, fun k hk => ?_⟩, ⟨?_, l2, ?_, fun i hi => ?_⟩, ⟨⟨g1n, ?_⟩, g2n, ?_⟩, ⟨trivial, trivial, trivial⟩⟩
  · rw [A 19 (by omega), A 20 (by omega)]; exact o1.fr (sm 19 (by omega) (by omega)) he
  · rw [A 20 (by omega), (sm 20 (by omega) (by omega)).2.1]; exact o3 f hf
  · rw [A 21 (by omega), A 22 (by omega)]; exact v1.fr (sm 21 (by omega) (by omega)) he
  · rw [A 22 (by omega), (sm 22 (by omega) (by omega)).2.1]; exact v3 v hv
  · rw [A 23 (by omega), A 24 (by omega)]; exact e1.fr (sm 23 (by omega) (by omega)) he
  · rw [A 24 (by omega), (sm 24 (by omega) (by omega)).2.1]; exact e3 e h9
  · rw [A 25 (by omega), A 26 (by omega)]; exact w1.fr (sm 25 (by omega) (by omega)) he
  · rw [A 27 (by omega), A 28 (by omega)]; exact u1.fr (sm 27 (by omega) (by omega)) he
  · rw [A 29 (by omega), A 30 (by omega)]; exact n1.fr (sm 29 (by omega) (by omega)) he
  · rw [A 14 (by omega), (sm 14 (by omega) (by omega)).1]; exact n2
  · rw [A 31 (by omega), nn' 31 (by omega)]; exact n3
  · rw [A 31 (by omega), nn' 31 (by omega)]; exact n4
  · rw [A 30 (by omega), (sm 30 (by omega) (by omega)).2.1]; exact n5 k hk
  · rw [A 18 (by omega), nn' 18 (by omega)]; exact l1
  · rw [A 14 (by omega), (sm 14 (by omega) (by omega)).1]; exact l3
  · rw [A 18 (by omega), (sm 18 (by omega) (by omega)).2.2]
    refine ⟨(l4 i hi).1, (l4 i hi).2.fr (fun a h1 h2 => hs a h1 ?_) he ho (A 25 (by omega))⟩
    unfold wtg
    rcases h2 with h2 | h2 | h2
    · exact .inl h2
    · exact .inr (.inr (.inr (.inl h2)))
    · exact .inr (.inr (.inr (.inr h2)))
  · rw [A 32 (by omega), A 33 (by omega)]; exact g1.fr (sm 32 (by omega) (by omega)) he
  · rw [A 34 (by omega), A 35 (by omega)]; exact g2.fr (sm 34 (by omega) (by omega)) he
end W1
