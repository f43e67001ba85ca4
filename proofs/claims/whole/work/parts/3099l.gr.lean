-- a run: a memory grows
/-- the same world with other pages -/
def wgr (W : wD) (np : Nat) : wD := (W.1, W.2.1, W.2.2.1, W.2.2.2.1, W.2.2.2.2.1, W.2.2.2.2.2.1, W.2.2.2.2.2.2.1, W.2.2.2.2.2.2.2.1, W.2.2.2.2.2.2.2.2.1, W.2.2.2.2.2.2.2.2.2.1, W.2.2.2.2.2.2.2.2.2.2.1, np, W.2.2.2.2.2.2.2.2.2.2.2.2)
/-- what a run may change -/
def stg (own ad own' ad' : Nat → Nat) (h h' : xb_H) : Prop :=
  cB own' ad' h' ∧ (∀ k, k ∉ goC → ad' k = ad k) ∧ (∀ a, xb_k h a ≠ 0 → own' a = own a) ∧ xb_ext h h' ∧ (∀ a, xb_k h a ≠ 0 → own a ≠ 50 → own a ≠ 51 → (∀ k ∈ goC, a ≠ ad k) → xh_sm h h' a) ∧ (∀ k, ad' k = ad k ∨ xb_k h (ad' k) = 0) ∧ ∀ k, k ∉ itl → ad' k = ad k
/-- what a step does to the world: a variable, the bytes, more pages -/
abbrev wEf : Type := Option (Nat × Int64) × (Nat → Nat) × Nat
def w0 (ad : Nat → Nat) (h : xb_H) : wEf := (none, byA (xb_l h (ad 26)), 0)
def eV (ε : wEf) (u : Nat → Int64) : Nat → Int64 := match ε.1 with
  | none => u
  | some p => va_up u p.1 p.2
def wF (ad : Nat → Nat) (h : xb_H) (ad' : Nat → Nat) (h' : xb_H) (W : wD) (i0 : Nat) (ε : wEf) : Prop :=
  (ad' 22 = ad 22 ∧ xb_l h' (ad 22) = eV ε (xb_l h (ad 22))) ∧ (∀ a, a < 65536 * (wnp W + ε.2.2) → byA (xb_l h' (ad' 26)) a = ε.2.1 a) ∧
  ∀ i, i < wic W → 0 < dn (wd W i) 4 / 3 → (mmA h' W i = mmA h W i ∧ mmS h' W i = mmS h W i ∧ mmX h' W i = mmX h W i) ∧ (mmA h W i = mmA h W i0 → mmP h' W i = mmP h W i + ε.2.2 ∧ (∀ j, j < mmP h W i → xb_i h' (mmS h W i) j = xb_i h (mmS h W i) j) ∧ ∀ j, mmP h W i ≤ j → j < mmP h W i + ε.2.2 → (xb_i h' (mmS h W i) j).toInt = (wnp W + (j - mmP h W i) : Nat)) ∧ (mmA h W i ≠ mmA h W i0 → mmP h' W i = mmP h W i ∧ ∀ j, j < mmP h W i → xb_i h' (mmS h W i) j = xb_i h (mmS h W i) j)
section GR1
variable {own own' own2 ad ad' ad2 : Nat → Nat} {h h' h1 h2 : xb_H} {W : wD} {σ D : Nat} {gx : Nat → fG} {t P lcn p0 E g : Nat} {lo ν0 : Nat → Int32} {G : ctG}
theorem stp.sg {C : List Nat} (s : stp C [] own ad own' ad' h h') (hC : ∀ k ∈ C, k ∈ goC) : stg own ad own' ad' h h' := by
  obtain ⟨a1, a2, a3, a4, a5, a6, a7⟩ := s
  exact ⟨a1, fun k hk => a2 k (fun h9 => hk (hC k h9)), a3, a4, fun a ha _ _ hc => a5 a ha (by simp) (fun k hk => hc k (hC k hk)), a6, a7⟩
theorem stg.tr (e1 : stg own ad own' ad' h h') (e2 : stg own' ad' own2 ad2 h' h2) : stg own ad own2 ad2 h h2 := by
  obtain ⟨a1, a2, a3, a4, a5, a6, a7⟩ := e1
  obtain ⟨b1, b2, b3, b4, b5, b6, b7⟩ := e2
  refine ⟨b1, fun k hk => (b2 k hk).trans (a2 k hk), fun a ha => (b3 a (ext_nz a4 ha)).trans (a3 a ha), a4.tr b4, fun a ha h50 h51 hc => ?_, fun k => ?_, fun k hk => (b7 k hk).trans (a7 k hk)⟩
  · refine (a5 a ha h50 h51 hc).tr (b5 a (ext_nz a4 ha) (by rw [a3 a ha]; exact h50) (by rw [a3 a ha]; exact h51) (fun k hk => ?_))
    rcases a6 k with e | e
    · rw [e]
      exact hc k hk
    · exact fun e9 => ha (e9 ▸ e)
  · rcases b6 k with e | e
    · rw [e]
      exact a6 k
    · exact .inr (ext_z a4 e)
theorem stg.rf (hB : cB own ad h) : stg own ad own ad h h := (stp.rf hB).sg (fun k hk => by simp at hk)
theorem gR.sg {ma sl : Nat} (hB : cB own ad h) (s : gR own ad own' ad' h h' ma sl) (om : own ma = 50) (os : own sl = 51) : stg own ad own' ad' h h' := by
  obtain ⟨r1, r2, r3, r4, r5, r6, r7⟩ := s
  refine ⟨r1, fun k hk => r2 k (fun e => hk (by rw [e]; decide)), r3, r4, fun a ha h50 h51 hc => r5 a ha (hc 25 (by decide)) (hc 26 (by decide)) (fun e => h50 (by rw [e]; exact om)) (fun e => h51 (by rw [e]; exact os)), fun k => ?_, fun k hk => r2 k (fun e => hk (by rw [e]; decide))⟩
  by_cases e : k = 26
  · rw [e]
    exact r7
  · exact .inl (r2 k e)
theorem stg.cm (s : stg own ad own' ad' h h') (hB : cB own ad h) {k : Nat} (hk : k < 41) (hn : k ∉ goC) : ad' k = ad k ∧ xh_sm h h' (ad k) :=
  ⟨s.2.1 k hn, s.2.2.2.2.1 _ (hB.z k hk) (by rw [hB.o k hk]; omega) (by rw [hB.o k hk]; omega) (fun j hj => hB.ne hk (goC_lt j hj) (fun e => hn (e ▸ hj)))⟩
theorem wI_grown {ma sl pc more : Nat} (hB : cB own ad h) (hW : wI own ad h W σ) (s : gR own ad own' ad' h h' ma sl) (km : xb_k h ma = 13) (om : own ma = 50) (rsl : xb_r h ma 2 = some sl) (ks : xb_k h sl = 102) (os : own sl = 51) (hms : wms W sl = ma) (hpc : (xb_i h ma 3).toInt = pc) (hpn : pc ≤ wnp W) (hsl : ∀ j, j < pc → 0 ≤ (xb_i h sl j).toInt ∧ (xb_i h sl j).toInt < wnp W)
    (hm : wnp W + more ≤ 16) (hR : xr_row h' (ad 25) 1 (8192 * (wnp W + more)) (ad' 26)) (w1 : (xb_i h' ma 3).toInt = (pc + more : Nat)) (w2 : ∀ j, j < pc → xb_i h' sl j = xb_i h sl j) (w3 : ∀ j, pc ≤ j → j < pc + more → 0 ≤ (xb_i h' sl j).toInt ∧ (xb_i h' sl j).toInt < (wnp W + more : Nat)) : wI own' ad' h' (wgr W (wnp W + more)) σ := by
  obtain ⟨⟨o1, o2, o3⟩, ⟨v1, v2, v3⟩, ⟨e1, e2, e3⟩, -, ⟨un, u1, u2⟩, ⟨nn, ns, n1, n2, n3, n4, n5⟩, ⟨l1, l2, l3, l4⟩, ⟨⟨g1n, g1⟩, g2n, g2⟩, ⟨s1, s2, s3⟩⟩ := hW
  obtain ⟨r1, r2, r3, he, r5, ⟨r6, r7, r8⟩, r9⟩ := id s
  have cm : ∀ k, k < 41 → k ≠ 25 → k ≠ 26 → xh_sm h h' (ad k) := fun k hk h1 h2 => r5 _ (hB.z k hk) (hB.ne hk (by omega) h1) (hB.ne hk (by omega) h2) (fun e => hB.nk hk om (by omega) e.symm) (fun e => hB.nk hk os (by omega) e.symm)
  have sm1 : ∀ a, xb_k h a ≠ 0 → own a = 1 → xh_sm h h' a := fun a ha h1 => r5 a ha (hB.n1 (by omega) h1) (hB.n1 (by omega) h1) (fun e => by rw [e, om] at h1; omega) (fun e => by rw [e, os] at h1; omega)
  have A : ∀ k, k ≠ 26 → ad' k = ad k := r2
  have nn' : ∀ k, k < 41 → xb_n h' (ad k) = xb_n h (ad k) := fun k hk => (he _ (hB.z k hk)).2
  have c14 := cm 14 (by omega) (by omega) (by omega)
  have c18 := cm 18 (by omega) (by omega) (by omega)
  refine ⟨⟨?_, o2, fun f hf => ?_⟩, ⟨?_, v2, fun v hv => ?_⟩, ⟨?_, e2, fun e h9 => ?_⟩, ⟨?_, hm⟩, ⟨un, ?_, u2⟩, ⟨nn, ns, ?_, ?_, ?_, ?_, fun k hk => ?_⟩, ⟨?_, l2, ?_, fun i hi => ?_⟩, ⟨⟨g1n, ?_⟩, g2n, ?_⟩, ⟨trivial, trivial, trivial⟩⟩
  · rw [A 19 (by omega), A 20 (by omega)]; exact o1.fr (cm 19 (by omega) (by omega) (by omega)) he
  · rw [A 20 (by omega), (cm 20 (by omega) (by omega) (by omega)).2.1]; exact o3 f hf
  · rw [A 21 (by omega), A 22 (by omega)]; exact v1.fr (cm 21 (by omega) (by omega) (by omega)) he
  · rw [A 22 (by omega), (cm 22 (by omega) (by omega) (by omega)).2.1]; exact v3 v hv
  · rw [A 23 (by omega), A 24 (by omega)]; exact e1.fr (cm 23 (by omega) (by omega) (by omega)) he
  · rw [A 24 (by omega), (cm 24 (by omega) (by omega) (by omega)).2.1]; exact e3 e h9
  · rw [A 25 (by omega)]; exact hR
  · rw [A 27 (by omega), A 28 (by omega)]; exact u1.fr (cm 27 (by omega) (by omega) (by omega)) he
  · rw [A 29 (by omega), A 30 (by omega)]; exact n1.fr (cm 29 (by omega) (by omega) (by omega)) he
  · rw [A 14 (by omega), c14.1]; exact n2
  · rw [A 31 (by omega), nn' 31 (by omega)]; exact n3
  · rw [A 31 (by omega), nn' 31 (by omega)]; exact n4
  · rw [A 30 (by omega), (cm 30 (by omega) (by omega) (by omega)).2.1]; exact n5 k hk
  · rw [A 18 (by omega), nn' 18 (by omega)]; exact l1
  · rw [A 14 (by omega), c14.1]; exact l3
  · rw [A 18 (by omega), c18.2.2]
    refine ⟨(l4 i hi).1, ?_⟩
    obtain ⟨⟨a1, a2, a3, a4, a5⟩, ⟨fa, b1, b2, b3, b4, b5⟩, ⟨va, c1, c2, c3, c4, c5⟩, ⟨d1, d2⟩, ⟨i1, i2⟩, ⟨f1, f2⟩, j1, j2⟩ := (l4 i hi).2
    have z : xb_k h (wia W i) ≠ 0 := by omega
    have si := sm1 _ z a2
    have zf : xb_k h fa ≠ 0 := by omega
    have zv : xb_k h va ≠ 0 := by omega
    have sf := sm1 _ zf b3
    have sv := sm1 _ zv c3
    refine ⟨⟨he.k (c := 10) a1, (r3 _ z).trans a2, (congrArg Int32.toInt (congrFun si.1 0)).trans a3, (congrFun si.2.2 1).trans a4, a5.fr (fun a h1 h2 => sm1 a h1 h2) he (fun a h1 h2 => by rw [r3 a h1]; exact h2)⟩, ⟨fa, (congrFun si.2.2 2).trans b1, he.k (c := 102) b2, by rw [r3 _ zf]; exact b3, by rw [he.n (c := 102) b2]; exact b4, fun k hk => by rw [sf.2.1]; exact b5 k hk⟩, ⟨va, (congrFun si.2.2 3).trans c1, he.k (c := 102) c2, by rw [r3 _ zv]; exact c3, by rw [he.n (c := 102) c2]; exact c4, fun k hk => by rw [sv.2.1]; exact c5 k hk⟩, ⟨(congrArg Int32.toInt (congrFun si.1 4)).trans d1, d2⟩, ⟨(congrArg Int32.toInt (congrFun si.1 5)).trans i1, i2⟩, ⟨fun h9 => ?_, fun ta h9 => ?_⟩, fun h9 => ?_, fun ma2 h9 => ?_⟩
    · obtain ⟨ta, h8⟩ := f1 h9
      exact ⟨ta, (congrFun si.2.2 6).trans h8⟩
    · exact (f2 ta ((congrFun si.2.2 6).symm.trans h9)).fr (fun a h1 h2 => sm1 a h1 h2) he r3
    · obtain ⟨ta, h8⟩ := j1 h9
      exact ⟨ta, (congrFun si.2.2 7).trans h8⟩
    · obtain ⟨t1, t2, t3, t4, sl2, pc2, t5, t6, t7, t8, t9, t10, t11, t12⟩ := j2 ma2 ((congrFun si.2.2 7).symm.trans h9)
      by_cases em : ma2 = ma
      · subst em
        have esl : sl2 = sl := by
          rw [rsl] at t5
          exact (Option.some.inj t5).symm
        subst esl
        have epc : pc2 = pc := by omega
        subst epc
        refine ⟨he.k (c := 12) km, by rw [r3 _ (by omega)]; exact om, by rw [r6, A 25 (by omega)]; exact t3, by rw [r7]; exact t4, sl2, pc2 + more, by rw [r6]; exact rsl, he.k (c := 101) ks, by rw [r3 _ (by omega)]; exact os, t8, by rw [he.n (c := 101) ks]; exact t9, w1, ?_, fun j hj => ?_⟩
        · show pc2 + more ≤ wnp W + more
          omega
        · show 0 ≤ (xb_i h' sl2 j).toInt ∧ (xb_i h' sl2 j).toInt < ((wnp W + more : Nat) : Int)
          by_cases h8 : j < pc2
          · rw [w2 j h8]
            have := hsl j h8
            omega
          · exact w3 j (by omega) hj
      · have esl : sl2 ≠ sl := fun e => em (by rw [← t8, e, hms])
        have z2 : xb_k h ma2 ≠ 0 := by omega
        have z3 : xb_k h sl2 ≠ 0 := by omega
        have sa := r5 ma2 z2 (hB.nk (by omega) t2 (by omega)) (hB.nk (by omega) t2 (by omega)) em (fun e => by rw [e, os] at t2; omega)
        have sb := r5 sl2 z3 (hB.nk (by omega) t7 (by omega)) (hB.nk (by omega) t7 (by omega)) (fun e => by rw [e, om] at t7; omega) esl
        refine ⟨he.k (c := 12) t1, by rw [r3 _ z2]; exact t2, by rw [sa.2.2, A 25 (by omega)]; exact t3, by rw [sa.2.1]; exact t4, sl2, pc2, by rw [sa.2.2]; exact t5, he.k (c := 101) t6, by rw [r3 _ z3]; exact t7, t8, by rw [he.n (c := 101) t6]; exact t9, by rw [sa.1]; exact t10, ?_, fun j hj => ?_⟩
        · show pc2 ≤ wnp W + more
          omega
        · show 0 ≤ (xb_i h' sl2 j).toInt ∧ (xb_i h' sl2 j).toInt < ((wnp W + more : Nat) : Int)
          rw [sb.1]
          have := t12 j hj
          omega
  · rw [A 32 (by omega), A 33 (by omega)]; exact g1.fr (cm 32 (by omega) (by omega) (by omega)) he
  · rw [A 34 (by omega), A 35 (by omega)]; exact g2.fr (cm 34 (by omega) (by omega) (by omega)) he
/-- all that is kept by a step -/
def sQ (own ad : Nat → Nat) (h : xb_H) (W : wD) (σ rc rs : Nat) (own' ad' : Nat → Nat) (h' : xb_H) (bc' bs' : Nat) (i0 : Nat) (o : Oc) (e : Option Int64) (ε : wEf) : Prop :=
  stg own ad own' ad' h h' ∧ wI own' ad' h' (wgr W (wnp W + ε.2.2)) σ ∧ mS ad' h' ∧ oR ad h ad' h' W o ∧ oU ad h ad' h' e ∧ wF ad h ad' h' W i0 ε ∧ fI ad' h' ∧ bgv ad' h' rc rs bc' bs'
/-- an instance's memory -/
theorem wI.mm {i : Nat} (hW : wI own ad h W σ) (hi : i < wic W) (hm : 0 < dn (wd W i) 4 / 3) : xb_r h (wia W i) 7 = some (mmA h W i) ∧ xb_k h (wia W i) ≠ 0 ∧ own (wia W i) = 1 ∧ xb_k h (mmA h W i) ≠ 0 ∧ own (mmA h W i) = 50 ∧ xb_r h (mmA h W i) 2 = some (mmS h W i) ∧ xb_k h (mmS h W i) ≠ 0 ∧ own (mmS h W i) = 51 ∧ (xb_i h (mmA h W i) 3).toInt = mmP h W i ∧ mmP h W i ≤ wnp W ∧ (∀ j, j < mmP h W i → 0 ≤ (xb_i h (mmS h W i) j).toInt ∧ (xb_i h (mmS h W i) j).toInt < wnp W) ∧ wms W (mmS h W i) = mmA h W i := by
  obtain ⟨l5, hiO⟩ := hW.2.2.2.2.2.2.1.2.2.2 _ hi
  obtain ⟨⟨q1, q2, q3, q4, q5⟩, -, -, -, -, -, tm1, tm2⟩ := id hiO
  obtain ⟨ma, hma⟩ := tm1 hm
  obtain ⟨k1, k2, k3, k4, sl, pc, k5, k6, k7, k8, k9, k10, k11, k12⟩ := tm2 ma hma
  have eA : mmA h W i = ma := by
    unfold mmA
    rw [hma, Option.getD_some]
  have eS : mmS h W i = sl := by
    unfold mmS
    rw [eA, k5, Option.getD_some]
  have eP : mmP h W i = pc := by
    unfold mmP
    rw [eA, k10, Int.toNat_natCast]
  rw [eA, eS, eP]
  exact ⟨hma, by omega, q2, by omega, k2, k5, by omega, k7, k10, k11, k12, k8⟩
/-- memories stay where no memory grows -/
theorem wF.no {i0 : Nat} {ε : wEf} (hW : wI own ad h W σ) (sm : ∀ a, xb_k h a ≠ 0 → own a = 1 ∨ own a = 50 ∨ own a = 51 → xh_sm h h' a) (a22 : ad' 22 = ad 22) (h22 : xb_l h' (ad 22) = eV ε (xb_l h (ad 22))) (hb : ∀ a, byA (xb_l h' (ad' 26)) a = ε.2.1 a) (h0 : ε.2.2 = 0) : wF ad h ad' h' W i0 ε := by
  refine ⟨⟨a22, h22⟩, fun a _ => hb a, fun i hi hm => ?_⟩
  obtain ⟨b1, b2, b3, b4, b5, b6, b7, b8, b9, -⟩ := hW.mm hi hm
  have s1 := sm _ b2 (.inl b3)
  have s2 := sm _ b4 (.inr (.inl b5))
  have s3 := sm _ b7 (.inr (.inr b8))
  have eA : mmA h' W i = mmA h W i := by
    show (xb_r h' (wia W i) 7).getD 0 = (xb_r h (wia W i) 7).getD 0
    rw [s1.2.2]
  have eS : mmS h' W i = mmS h W i := by
    show (xb_r h' (mmA h' W i) 2).getD 0 = (xb_r h (mmA h W i) 2).getD 0
    rw [eA, s2.2.2]
  have eP : mmP h' W i = mmP h W i := by
    show (xb_i h' (mmA h' W i) 3).toInt.toNat = (xb_i h (mmA h W i) 3).toInt.toNat
    rw [eA, s2.1]
  have eX : mmX h' W i = mmX h W i := by
    show (xb_l h' (mmA h' W i) 1).toInt = (xb_l h (mmA h W i) 1).toInt
    rw [eA, s2.2.1]
  refine ⟨⟨eA, eS, eX⟩, fun _ => ⟨by rw [eP, h0]; rfl, fun j _ => by rw [s3.1], fun j h1 h2 => ?_⟩, fun _ => ⟨eP, fun j _ => by rw [s3.1]⟩⟩
  rw [h0] at h2
  omega
theorem wF.st {C : List Nat} {i0 : Nat} {ε : wEf} (hB : cB own ad h) (hW : wI own ad h W σ) (s : stp C [] own ad own' ad' h h') (hC : ∀ k ∈ C, k < 41) (a22 : ad' 22 = ad 22) (h22 : xb_l h' (ad 22) = eV ε (xb_l h (ad 22))) (hb : ∀ a, byA (xb_l h' (ad' 26)) a = ε.2.1 a) (h0 : ε.2.2 = 0) : wF ad h ad' h' W i0 ε :=
  wF.no hW (fun a ha ho => s.n1 hB hC ha (by simp) rfl (by omega)) a22 h22 hb h0
theorem wF.pre {i0 : Nat} {ε : wEf} {h2 : xb_H} {ad2 : Nat → Nat} (hF : wF ad h ad' h' W i0 ε) (hW : wI own ad h W σ) (hW' : wI own' ad' h' (wgr W (wnp W + ε.2.2)) σ) (sm : ∀ a, xb_k h' a ≠ 0 → own' a = 1 ∨ own' a = 50 ∨ own' a = 51 → xh_sm h' h2 a) (a22 : ad2 22 = ad' 22) (a26 : ad2 26 = ad' 26) (h22 : xb_l h2 (ad' 22) = xb_l h' (ad' 22)) (h26 : xb_l h2 (ad' 26) = xb_l h' (ad' 26)) : wF ad h ad2 h2 W i0 ε := by
  obtain ⟨⟨f1, f2⟩, f3, f4⟩ := hF
  refine ⟨⟨a22.trans f1, by rw [← f1, h22, f1]; exact f2⟩, fun a ha => by rw [a26, h26]; exact f3 a ha, fun i hi hm => ?_⟩
  obtain ⟨⟨g1, g2, g5⟩, g3, g4⟩ := f4 i hi hm
  obtain ⟨b1, b2, b3, b4, b5, b6, b7, b8, b9, -⟩ := hW'.mm (i := i) hi hm
  have s1 := sm _ b2 (.inl b3)
  have s2 := sm _ b4 (.inr (.inl b5))
  have s3 := sm _ b7 (.inr (.inr b8))
  have eA : mmA h2 W i = mmA h' W i := by
    show (xb_r h2 (wia W i) 7).getD 0 = (xb_r h' (wia W i) 7).getD 0
    rw [show xb_r h2 (wia W i) = xb_r h' (wia W i) from s1.2.2]
  have eS : mmS h2 W i = mmS h' W i := by
    show (xb_r h2 (mmA h2 W i) 2).getD 0 = (xb_r h' (mmA h' W i) 2).getD 0
    rw [eA, show xb_r h2 (mmA h' W i) = xb_r h' (mmA h' W i) from s2.2.2]
  have eP : mmP h2 W i = mmP h' W i := by
    show (xb_i h2 (mmA h2 W i) 3).toInt.toNat = (xb_i h' (mmA h' W i) 3).toInt.toNat
    rw [eA, show xb_i h2 (mmA h' W i) = xb_i h' (mmA h' W i) from s2.1]
  have eX : mmX h2 W i = mmX h' W i := by
    show (xb_l h2 (mmA h2 W i) 1).toInt = (xb_l h' (mmA h' W i) 1).toInt
    rw [eA, show xb_l h2 (mmA h' W i) = xb_l h' (mmA h' W i) from s2.2.1]
  have eI : xb_i h2 (mmS h W i) = xb_i h' (mmS h W i) := by
    rw [← g2]
    exact s3.1
  rw [eA, eS, eP, eX, eI]
  exact ⟨⟨g1, g2, g5⟩, g3, g4⟩
/-- memories where one grows -/
theorem wF.gr {i0 ma sl pc more : Nat} (hB : cB own ad h) (hW : wI own ad h W σ) (hi0 : i0 < wic W) (hm0 : 0 < dn (wd W i0) 4 / 3) (eA : mmA h W i0 = ma) (eS : mmS h W i0 = sl) (eP : mmP h W i0 = pc) (s : gR own ad own' ad' h h' ma sl) (w1 : (xb_i h' ma 3).toInt = (pc + more : Nat)) (w2 : ∀ j, j < pc → xb_i h' sl j = xb_i h sl j) (w3 : grX ad ad' h h' sl pc (wnp W) more) (om : own ma = 50) (os : own sl = 51) : wF ad h ad' h' W i0 (none, fun a => if a < 65536 * wnp W then byA (xb_l h (ad 26)) a else 0, more) := by
  obtain ⟨r1, r2, r3, he, r5, ⟨r6, r7, r8⟩, r9⟩ := id s
  have c22 : xh_sm h h' (ad 22) := r5 _ (hB.z 22 (by omega)) (hB.ne (by omega) (by omega) (by omega)) (hB.ne (by omega) (by omega) (by omega)) (fun e => hB.nk (by omega) om (by omega) e.symm) (fun e => hB.nk (by omega) os (by omega) e.symm)
  refine ⟨⟨r2 22 (by omega), c22.2.1⟩, fun a ha => ?_, fun i hi hm => ?_⟩
  · show _ = if a < 65536 * wnp W then byA (xb_l h (ad 26)) a else 0
    have ha' : a < 65536 * (wnp W + more) := ha
    unfold byA
    split
    · rw [w3.2.1 _ (by omega)]
    · rw [w3.2.2 _ (by omega) (by omega)]
      simp
  · obtain ⟨b1, b2, b3, b4, b5, b6, b7, b8, b9, b10, b11, b12⟩ := hW.mm hi hm
    have s1 : xh_sm h h' (wia W i) := r5 _ b2 (hB.n1 (by omega) b3) (hB.n1 (by omega) b3) (fun e => by rw [e, om] at b3; omega) (fun e => by rw [e, os] at b3; omega)
    have eA' : mmA h' W i = mmA h W i := by
      show (xb_r h' (wia W i) 7).getD 0 = (xb_r h (wia W i) 7).getD 0
      rw [s1.2.2]
    by_cases h9 : mmA h W i = ma
    · have h8 : mmS h W i = sl := by
        show (xb_r h (mmA h W i) 2).getD 0 = sl
        rw [h9, ← eS]
        show _ = (xb_r h (mmA h W i0) 2).getD 0
        rw [eA]
      have h7 : mmP h W i = pc := by
        show (xb_i h (mmA h W i) 3).toInt.toNat = pc
        rw [h9, ← eP]
        show _ = (xb_i h (mmA h W i0) 3).toInt.toNat
        rw [eA]
      have eS' : mmS h' W i = mmS h W i := by
        show (xb_r h' (mmA h' W i) 2).getD 0 = (xb_r h (mmA h W i) 2).getD 0
        rw [eA', h9, r6]
      have eX' : mmX h' W i = mmX h W i := by
        show (xb_l h' (mmA h' W i) 1).toInt = (xb_l h (mmA h W i) 1).toInt
        rw [eA', h9, r7]
      refine ⟨⟨eA', eS', eX'⟩, fun _ => ⟨?_, ?_, ?_⟩, fun h6 => absurd (h9.trans eA.symm) h6⟩
      · show (xb_i h' (mmA h' W i) 3).toInt.toNat = _
        rw [eA', h9, w1, Int.toNat_natCast, h7]
      · rw [h7, h8]
        exact w2
      · rw [h7, h8]
        exact w3.1
    · have h8 : mmS h W i ≠ sl := fun e => h9 (by
        obtain ⟨-, -, -, -, -, -, -, -, -, -, -, d12⟩ := hW.mm hi0 hm0
        rw [← b12, e, ← eS, d12, eA])
      have s2 : xh_sm h h' (mmA h W i) := r5 _ b4 (hB.nk (by omega) b5 (by omega)) (hB.nk (by omega) b5 (by omega)) h9 (fun e => by rw [e, os] at b5; omega)
      have s3 : xh_sm h h' (mmS h W i) := r5 _ b7 (hB.nk (by omega) b8 (by omega)) (hB.nk (by omega) b8 (by omega)) (fun e => by rw [e, om] at b8; omega) h8
      have eS' : mmS h' W i = mmS h W i := by
        show (xb_r h' (mmA h' W i) 2).getD 0 = (xb_r h (mmA h W i) 2).getD 0
        rw [eA', s2.2.2]
      have eX' : mmX h' W i = mmX h W i := by
        show (xb_l h' (mmA h' W i) 1).toInt = (xb_l h (mmA h W i) 1).toInt
        rw [eA', s2.2.1]
      refine ⟨⟨eA', eS', eX'⟩, fun h6 => absurd (h6.trans eA) h9, fun _ => ⟨?_, fun j _ => by rw [s3.1]⟩⟩
      show (xb_i h' (mmA h' W i) 3).toInt.toNat = (xb_i h (mmA h W i) 3).toInt.toNat
      rw [eA', s2.1]
end GR1
