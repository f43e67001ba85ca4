-- linking: what an import means
/-- what may change while a module is linked -/
def lkR (own ad own' ad' : Nat → Nat) (h h' : xb_H) : Prop :=
  cB own' ad' h' ∧ (∀ k, k ≠ 33 → k ≠ 35 → ad' k = ad k) ∧ (∀ a, xb_k h a ≠ 0 → own' a = own a) ∧ xb_ext h h' ∧ (∀ a, xb_k h a ≠ 0 → a ≠ ad 14 → a ≠ ad 32 → a ≠ ad 33 → a ≠ ad 34 → a ≠ ad 35 → xh_sm h h' a) ∧ (∀ j, j ≠ 7 → j ≠ 8 → xb_i h' (ad 14) j = xb_i h (ad 14) j) ∧ (ad' 33 = ad 33 ∨ xb_k h (ad' 33) = 0) ∧ (ad' 35 = ad 35 ∨ xb_k h (ad' 35) = 0)
theorem ext_z {h h' : xb_H} (he : xb_ext h h') {a : Nat} (ha : xb_k h' a = 0) : xb_k h a = 0 := by
  cases e : xb_k h a with
  | zero => rfl
  | succ c => rw [he.k e] at ha; cases ha
theorem ext_nz {h h' : xb_H} (he : xb_ext h h') {a : Nat} (ha : xb_k h a ≠ 0) : xb_k h' a ≠ 0 := fun e => ha (ext_z he e)
/-- the k-th name is so -/
def nmS (ad : Nat → Nat) (h : xb_H) (u : Nat → Int32) (p l k : Nat) : Prop := (xb_l h (ad 30) (3 * k + 1)).toInt = l ∧ ∀ t, t < l → xb_i h (ad 31) ((xb_l h (ad 30) (3 * k)).toInt.toNat + t) = u (p + t)
/-- the instance that is named so, the latest name first -/
def nmR (ad : Nat → Nat) (h : xb_H) (nn : Nat) (u : Nat → Int32) (p l : Nat) (r : Int32) : Prop := (r = -1 ∧ ∀ k, k < nn → ¬ nmS ad h u p l k) ∨ ∃ k, k < nn ∧ nmS ad h u p l k ∧ (∀ j, k < j → j < nn → ¬ nmS ad h u p l j) ∧ r.toInt = (xb_l h (ad 30) (3 * k + 2)).toInt
section W4
variable {own own' own2 ad ad' ad2 : Nat → Nat} {h h' h2 : xb_H} {W : wD} {σ : Nat}
theorem lkR.rf (hB : cB own ad h) : lkR own ad own ad h h := ⟨hB, fun _ _ _ => rfl, fun _ _ => rfl, xb_ext.rf h, fun a _ _ _ _ _ _ => xh_sm.rf h a, fun _ _ _ => rfl, .inl rfl, .inl rfl⟩
theorem lkR.tr (e1 : lkR own ad own' ad' h h') (e2 : lkR own' ad' own2 ad2 h' h2) : lkR own ad own2 ad2 h h2 := by
  obtain ⟨a1, a2, a3, a4, a5, a6, a7, a8⟩ := e1
  obtain ⟨b1, b2, b3, b4, b5, b6, b7, b8⟩ := e2
  have e14 := a2 14 (by omega) (by omega)
  have e32 := a2 32 (by omega) (by omega)
  have e34 := a2 34 (by omega) (by omega)
  refine ⟨b1, fun k k1 k2 => (b2 k k1 k2).trans (a2 k k1 k2), fun a ha => (b3 a (ext_nz a4 ha)).trans (a3 a ha), a4.tr b4, fun a ha c1 c2 c3 c4 c5 => (a5 a ha c1 c2 c3 c4 c5).tr (b5 a (ext_nz a4 ha) (by rw [e14]; exact c1) (by rw [e32]; exact c2) ?_ (by rw [e34]; exact c4) ?_), fun j j1 j2 => by rw [← e14, b6 j j1 j2, e14, a6 j j1 j2], ?_, ?_⟩
  · rcases a7 with e | e
    · rw [e]; exact c3
    · exact fun e9 => ha (e9 ▸ e)
  · rcases a8 with e | e
    · rw [e]; exact c5
    · exact fun e9 => ha (e9 ▸ e)
  · rcases b7 with e | e
    · rw [e]; exact a7
    · exact .inr (ext_z a4 e)
  · rcases b8 with e | e
    · rw [e]; exact a8
    · exact .inr (ext_z a4 e)
theorem wI.lk (hB : cB own ad h) (hR : lkR own ad own' ad' h h') (hW : wI own ad h W σ) (hG : wG ad' h') : wI own' ad' h' W σ := by
  obtain ⟨r1, r2, r3, r4, r5, r6, r7, r8⟩ := hR
  obtain ⟨⟨o1, o2, o3⟩, ⟨v1, v2, v3⟩, ⟨e1, e2, e3⟩, ⟨w1, w2⟩, ⟨un, u1, u2⟩, ⟨nn, ns, n1, n2, n3, n4, n5⟩, ⟨l1, l2, l3, l4⟩, -, ⟨s1, s2, s3⟩⟩ := hW
  have sm : ∀ k, k < 41 → k ≠ 14 → k < 32 ∨ 35 < k → xh_sm h h' (ad k) := fun k hk h9 h8 => r5 _ (hB.z k hk) (hB.ne hk (by omega) (by omega)) (hB.ne hk (by omega) (by omega)) (hB.ne hk (by omega) (by omega)) (hB.ne hk (by omega) (by omega)) (hB.ne hk (by omega) (by omega))
  have sm1 : ∀ a t, xb_k h a ≠ 0 → own a = t → t < 2 ∨ 42 < t → xh_sm h h' a := fun a t ha ho ht => r5 a ha (hB.nk (by omega) ho ht) (hB.nk (by omega) ho ht) (hB.nk (by omega) ho ht) (hB.nk (by omega) ho ht) (hB.nk (by omega) ho ht)
  have nn' : ∀ k, k < 41 → xb_n h' (ad k) = xb_n h (ad k) := fun k hk => (r4 _ (hB.z k hk)).2
  have A : ∀ k, k ≠ 33 → k ≠ 35 → ad' k = ad k := r2
  refine ⟨⟨?_, o2, fun f hf => ?_⟩, ⟨?_, v2, fun v hv => ?_⟩, ⟨?_, e2, fun e h9 => ?_⟩, ⟨?_, w2⟩, ⟨un, ?_, u2⟩, ⟨nn, ns, ?_, ?_, ?_, ?_, fun k hk => ?_⟩, ⟨?_, l2, ?_, fun i hi => ?_⟩, hG, ⟨trivial, trivial, trivial⟩⟩
  · rw [A 19 (by omega) (by omega), A 20 (by omega) (by omega)]; exact o1.fr (sm 19 (by omega) (by omega) (by omega)) r4
  · rw [A 20 (by omega) (by omega), (sm 20 (by omega) (by omega) (by omega)).2.1]; exact o3 f hf
  · rw [A 21 (by omega) (by omega), A 22 (by omega) (by omega)]; exact v1.fr (sm 21 (by omega) (by omega) (by omega)) r4
  · rw [A 22 (by omega) (by omega), (sm 22 (by omega) (by omega) (by omega)).2.1]; exact v3 v hv
  · rw [A 23 (by omega) (by omega), A 24 (by omega) (by omega)]; exact e1.fr (sm 23 (by omega) (by omega) (by omega)) r4
  · rw [A 24 (by omega) (by omega), (sm 24 (by omega) (by omega) (by omega)).2.1]; exact e3 e h9
  · rw [A 25 (by omega) (by omega), A 26 (by omega) (by omega)]; exact w1.fr (sm 25 (by omega) (by omega) (by omega)) r4
  · rw [A 27 (by omega) (by omega), A 28 (by omega) (by omega)]; exact u1.fr (sm 27 (by omega) (by omega) (by omega)) r4
  · rw [A 29 (by omega) (by omega), A 30 (by omega) (by omega)]; exact n1.fr (sm 29 (by omega) (by omega) (by omega)) r4
  · rw [A 14 (by omega) (by omega), r6 11 (by omega) (by omega)]; exact n2
  · rw [A 31 (by omega) (by omega), nn' 31 (by omega)]; exact n3
  · rw [A 31 (by omega) (by omega), nn' 31 (by omega)]; exact n4
  · rw [A 30 (by omega) (by omega), (sm 30 (by omega) (by omega) (by omega)).2.1]; exact n5 k hk
  · rw [A 18 (by omega) (by omega), nn' 18 (by omega)]; exact l1
  · rw [A 14 (by omega) (by omega), r6 1 (by omega) (by omega)]; exact l3
  · rw [A 18 (by omega) (by omega), (sm 18 (by omega) (by omega) (by omega)).2.2]
    refine ⟨(l4 i hi).1, (l4 i hi).2.fr (fun a h1 h2 => sm1 a (own a) h1 rfl (by omega)) r4 r3 (A 25 (by omega) (by omega))⟩
theorem mo.lk {md : Nat} {d : mD} (hB : cB own ad h) (hR : lkR own ad own' ad' h h') (hm : mo own h md d) : mo own' h' md d := by
  obtain ⟨r1, r2, r3, r4, r5, r6, r7, r8⟩ := hR
  exact hm.fr (fun a ha ho => r5 a ha (hB.n1 (by omega) ho) (hB.n1 (by omega) ho) (hB.n1 (by omega) ho) (hB.n1 (by omega) ho) (hB.n1 (by omega) ho)) r4 (fun a ha ho => by rw [r3 a ha]; exact ho)
theorem tO.lk {ta : Nat} (hB : cB own ad h) (hR : lkR own ad own' ad' h h') (hm : tO own h W ta) : tO own' h' W ta := by
  obtain ⟨r1, r2, r3, r4, r5, r6, r7, r8⟩ := hR
  exact hm.fr (fun a ha ho => r5 a ha (hB.n1 (by omega) ho) (hB.n1 (by omega) ho) (hB.n1 (by omega) ho) (hB.n1 (by omega) ho) (hB.n1 (by omega) ho)) r4 r3
theorem mO.lk {ma : Nat} (hB : cB own ad h) (hR : lkR own ad own' ad' h h') (hm : mO own ad h W ma) : mO own' ad' h' W ma := by
  obtain ⟨r1, r2, r3, r4, r5, r6, r7, r8⟩ := hR
  exact hm.fr (fun a ha ho => r5 a ha (hB.nk (c := own a) (by omega) rfl (by omega)) (hB.nk (c := own a) (by omega) rfl (by omega)) (hB.nk (c := own a) (by omega) rfl (by omega)) (hB.nk (c := own a) (by omega) rfl (by omega)) (hB.nk (c := own a) (by omega) rfl (by omega))) r4 r3 (r2 25 (by omega) (by omega))
/-- what the first k imports are -/
def lkS (own ad : Nat → Nat) (h : xb_H) (W : wD) (d : mD) (k : Nat) : Prop :=
  fF ad h W d (mcnt (dvs d 1) 0 k) ∧ fV ad h W d (mcnt (dvs d 1) 3 k) ∧
  ((mcnt (dvs d 1) 1 k = 0 → xb_r h (ad 14) 14 = none) ∧ (0 < mcnt (dvs d 1) 1 k → ∃ ta, xb_r h (ad 14) 14 = some ta ∧ tO own h W ta)) ∧
  ((mcnt (dvs d 1) 2 k = 0 → xb_r h (ad 14) 15 = none) ∧ (0 < mcnt (dvs d 1) 2 k → ∃ ma, xb_r h (ad 14) 15 = some ma ∧ mO own ad h W ma))
theorem lkS.G {d : mD} {k : Nat} (hS : lkS own ad h W d k) : wG ad h := ⟨⟨_, hS.1.1⟩, _, hS.2.1.1⟩
theorem wI_instanceNamed {b at_ ln : Nat} {x2 x3 : Int32} {Qr : Int32 → xb_H → Prop} (hB : cB own ad h) (hN : wN ad h W) (kb : xb_k h b = 100) (hx2 : x2.toInt = at_) (hx3 : x3.toInt = ln) (hl : at_ + ln ≤ xb_n h b) (hb : xb_n h b ≤ 1000000) (hQ : ∀ (r : Int32) (nn : Nat), (xb_i h (ad 29) 1).toInt = (3 * nn : Nat) → r.toInt = -1 ∨ (0 ≤ r.toInt ∧ r.toInt < wic W) → nmR ad h nn (xb_i h b) at_ ln r → Qr r h) (hic : wic W ≤ 24) : w_World_instanceNamed (ad 14) b x2 x3 h Qr := by
  obtain ⟨nn, ns, n1, n2, n3, n4, n5⟩ := hN
  have k14 : xb_k h (ad 14) = 7 := hB.k 14 (by omega)
  have r9 : xb_r h (ad 14) 9 = some (ad 29) := hB.r (14, 9, 29) (by decide)
  have r10 : xb_r h (ad 14) 10 = some (ad 31) := hB.r (14, 10, 31) (by decide)
  have k31 : xb_k h (ad 31) = 100 := hB.k 31 (by omega)
  obtain ⟨b1, b2, b3, b4, b5, b6, b7, b8⟩ := id n1
  have ix : ∀ (x y : Int32) (k j : Nat), x.toInt = k → y.toInt = j → j < 3 → k < nn → (x * xb_i h (ad 29) 2 + y).toInt = (3 * k + j : Nat) := by
    intro x y k j e1 e2 e3 e4
    have e5 : (x * xb_i h (ad 29) 2).toInt = (3 * k : Nat) := by
      rw [z_mul, e1, b2]
      omega
    rw [z_add, e5, e2]
    omega
  have key : ∀ (m : Nat) (x4 : Int32) (k : Nat), x4.toInt = (k : Int) - 1 → k ≤ nn → k ≤ m → (∀ j, k ≤ j → j < nn → ¬ nmS ad h (xb_i h b) at_ ln j) → w_World_instanceNamed_L11 Qr (m + 1) (ad 14) b x2 x3 x4 h := by
    intro m
    induction m with
    | zero =>
      intro x4 k e1 e2 e3 e9
      unfold w_World_instanceNamed_L11
      refine ⟨fun _ => hQ (-1) nn b3 (.inl rfl) (.inl ⟨rfl, fun j hj => e9 j (by omega) hj⟩), fun e => ?_⟩
      rw [z_lt, e1] at e
      simp only [Int32.reduceToInt] at e
      omega
    | succ m ih =>
      intro x4 k e1 e2 e3 e9
      unfold w_World_instanceNamed_L11 w_World_instanceNamed_L64
      refine ⟨fun e => hQ (-1) nn b3 (.inl rfl) (.inl ⟨rfl, fun j hj => e9 j (by rw [z_lt, e1, show (0 : Int32).toInt = 0 from rfl] at e; omega) hj⟩), fun e => ⟨k14, ad 29, r9, b1, ?_⟩⟩
      rw [z_lt, e1] at e
      simp only [Int32.reduceToInt] at e
      have ek : x4.toInt = (k - 1 : Nat) := by omega
      have q0 := ix x4 0 (k - 1) 0 ek rfl (by omega) (by omega)
      have q1 := ix x4 1 (k - 1) 1 ek rfl (by omega) (by omega)
      have q2 := ix x4 2 (k - 1) 2 ek rfl (by omega) (by omega)
      obtain ⟨g1, g2, g3, g4, g5⟩ := n5 (k - 1) (by omega)
      have nxt : ¬ nmS ad h (xb_i h b) at_ ln (k - 1) → w_World_instanceNamed_L11 Qr (m + 1) (ad 14) b x2 x3 (x4 + -1) h := by
        intro hno
        refine ih (x4 + -1) (k - 1) ?_ (by omega) (by omega) (fun j h1 h2 => ?_)
        rotate_left
        · by_cases h3 : j = k - 1
          · rw [h3]
            exact hno
          · exact e9 j (by omega) h2
        have e0 : (-1 : Int32).toInt = -1 := rfl
        rw [z_add, ek, e0]
        omega
      unfold w_Row_at
      refine ⟨b1, ad 30, b4, b5, by rw [z_in, q1]; omega, fun _ => ⟨fun e5 => nxt (fun h9 => e5 ?_), fun e5 => ⟨ad 31, r10, ad 29, r9, b1, b1, ad 30, b4, b5, by rw [z_in, q0]; omega, fun _ => ?_⟩⟩⟩
      · rw [z_cl, q1, Int.toNat_natCast, z_eq, z_of64, h9.1, hx3]
        omega
      rw [z_cl, q1, Int.toNat_natCast] at e5
      rw [z_cl, q0, Int.toNat_natCast]
      have e6 : (xb_l h (ad 30) (3 * (k - 1) + 1)).toInt32.toInt = ln := by rw [e5]; exact hx3
      have e7 : (xb_l h (ad 30) (3 * (k - 1) + 1)).toInt32.toInt = (xb_l h (ad 30) (3 * (k - 1) + 1)).toInt := by
        rw [z_of64]
        omega
      have e8 : (xb_l h (ad 30) (3 * (k - 1) + 0)).toInt32.toInt = (xb_l h (ad 30) (3 * (k - 1))).toInt := by
        rw [Nat.add_zero, z_of64]
        omega
      have e8' : (xb_l h (ad 30) (3 * (k - 1) + 0)).toInt32.toInt = ((xb_l h (ad 30) (3 * (k - 1))).toInt.toNat : Nat) := by rw [e8]; omega
      refine y_sameBytes k31 kb e8' hx2 hx3 (by rw [e8]; omega) (by omega) (by omega) (by omega) (fun r hr _ => ⟨fun er => nxt (fun h9 => ?_), fun er => ⟨ad 29, r9, b1, b1, ad 30, b4, b5, by rw [z_in, q2]; omega, fun _ => ?_⟩⟩)
      · rcases hr with ⟨-, hr⟩ | ⟨hr, -⟩
        · exact hr h9.2
        · rw [er] at hr
          exact absurd hr (by decide)
      · have hsm : nmS ad h (xb_i h b) at_ ln (k - 1) := by
          rcases hr with ⟨hr, -⟩ | ⟨-, hr⟩
          · exact absurd hr er
          · exact ⟨by omega, hr⟩
        have e99 : (Int64.toInt32 (xb_l h (ad 30) (3 * (k - 1) + 2))).toInt = (xb_l h (ad 30) (3 * (k - 1) + 2)).toInt := by
          rw [z_of64]
          omega
        rw [z_cl, q2, Int.toNat_natCast]
        exact hQ _ nn b3 (.inr (by rw [e99]; omega)) (.inr ⟨k - 1, by omega, hsm, fun j h1 h2 => e9 j (by omega) h2, e99⟩)
  unfold w_World_instanceNamed
  refine ⟨k14, ad 29, r9, b1, sp_Row_lines n1 (by omega) (fun r5 e5 _ v6 e6 => ⟨nn + 1, key nn v6 nn ?_ (by omega) (by omega) (fun j h1 h2 => by omega)⟩)⟩
  have e7 : r5.toInt = nn := by rw [e5]; omega
  have e0 : (1 : Int32).toInt = 1 := rfl
  rw [e6, z_sub, e7, e0]
  omega
end W4
