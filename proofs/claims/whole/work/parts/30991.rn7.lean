-- a run: the host is called
/-- before function f is called, whose parameters are the latest values, from T on -/
def cP (ad : Nat → Nat) (h : xb_H) (W : wD) (D : Nat) (gx : Nat → fG) (f T : Nat) : Prop :=
  (D ≤ 200 ∧ (xb_i h (ad 15) 3).toInt = 1 ∧ (xb_i h (ad 15) 4).toInt = D ∧ (xb_i h (ad 15) 8).toInt = -1) ∧
  ((xb_i h (ad 15) 10).toInt = (T + (fT W f).1.length : Nat) ∧ T + (fT W f).1.length ≤ xb_n h (ad 37) ∧ vst (xb_l h (ad 37)) T (fT W f).1) ∧
  ((D = 0 → T = 0) ∧ (0 < D → T = gO (gx (D - 1)) + (gC (gx (D - 1))).length ∧ gB (gx 0) = 0 ∧ (xb_i h (ad 15) 16).toInt = gB (gx (D - 1)) ∧ (xb_i h (ad 15) 17).toInt = gO (gx (D - 1)) ∧ xb_r h (ad 15) 12 = some (wia W (gI (gx (D - 1)))) ∧ xb_r h (ad 15) 13 = some (dcd (wd W (gI (gx (D - 1))))) ∧ xb_r h (ad 15) 14 = some (dnt (wd W (gI (gx (D - 1))))))) ∧
  (∀ j, j < D → FO W (xb_n h (ad 37)) (xb_l h (ad 37)) (xb_i h (ad 38)) j (gx j) (if j + 1 = D then tp (fT W f).2 else tp (rT W (gx (j + 1))))) ∧ ∀ j, j + 1 < D → (xb_i h (ad 38) (5 * j + 2)).toInt = gA (gx j) ∧ gB (gx (j + 1)) = gO (gx j) + (gC (gx j)).length
/-- what a run may change when it calls -/
def caC : List Nat := [15, 27, 28, 36, 37, 38]
theorem caC_lt : ∀ k ∈ caC, k < 41 := by decide
section RN7
variable {own own' ad ad' : Nat → Nat} {h h' : xb_H} {W : wD} {σ D : Nat} {gx : Nat → fG}
theorem wI.ca (hB : cB own ad h) (hW : wI own ad h W σ) (s : stp caC [] own ad own' ad' h h') (hU : wU ad' h') : wI own' ad' h' W σ := by
  obtain ⟨⟨o1, o2, o3⟩, ⟨v1, v2, v3⟩, ⟨e1, e2, e3⟩, ⟨w1, w2⟩, -, ⟨nn, ns, n1, n2, n3, n4, n5⟩, ⟨l1, l2, l3, l4⟩, ⟨⟨g1n, g1⟩, g2n, g2⟩, ⟨s1, s2, s3⟩⟩ := hW
  have he := s.2.2.2.1
  have ho := s.2.2.1
  have cm : ∀ k, k < 41 → k ∉ caC → ad' k = ad k ∧ xh_sm h h' (ad k) := fun k hk hn => s.cm hB caC_lt (fun x hx => by cases hx) hk hn
  have sm1 : ∀ a t, xb_k h a ≠ 0 → own a = t → t < 2 ∨ 42 < t → xh_sm h h' a := fun a t ha h1 h2 => s.n1 hB caC_lt ha (by simp) h1 h2
  have nn' : ∀ k, k < 41 → xb_n h' (ad k) = xb_n h (ad k) := fun k hk => (he _ (hB.z k hk)).2
  obtain ⟨c14, s14⟩ := cm 14 (by omega) (by decide)
  obtain ⟨c18, s18⟩ := cm 18 (by omega) (by decide)
  obtain ⟨c19, s19⟩ := cm 19 (by omega) (by decide)
  obtain ⟨c20, s20⟩ := cm 20 (by omega) (by decide)
  obtain ⟨c21, s21⟩ := cm 21 (by omega) (by decide)
  obtain ⟨c22, s22⟩ := cm 22 (by omega) (by decide)
  obtain ⟨c23, s23⟩ := cm 23 (by omega) (by decide)
  obtain ⟨c24, s24⟩ := cm 24 (by omega) (by decide)
  obtain ⟨c25, s25⟩ := cm 25 (by omega) (by decide)
  obtain ⟨c26, s26⟩ := cm 26 (by omega) (by decide)
  obtain ⟨c29, s29⟩ := cm 29 (by omega) (by decide)
  obtain ⟨c30, s30⟩ := cm 30 (by omega) (by decide)
  obtain ⟨c31, s31⟩ := cm 31 (by omega) (by decide)
  obtain ⟨c32, s32⟩ := cm 32 (by omega) (by decide)
  obtain ⟨c33, s33⟩ := cm 33 (by omega) (by decide)
  obtain ⟨c34, s34⟩ := cm 34 (by omega) (by decide)
  obtain ⟨c35, s35⟩ := cm 35 (by omega) (by decide)
  refine ⟨⟨?_, o2, fun f hf => ?_⟩, ⟨?_, v2, fun v hv => ?_⟩, ⟨?_, e2, fun e h9 => ?_⟩, ⟨?_, w2⟩, hU, ⟨nn, ns, ?_, ?_, ?_, ?_, fun k hk => ?_⟩, ⟨?_, l2, ?_, fun i hi => ?_⟩, ⟨⟨g1n, ?_⟩, g2n, ?_⟩, ⟨trivial, trivial, trivial⟩⟩
  · rw [c19, c20]; exact o1.fr s19 he
  · rw [c20, s20.2.1]; exact o3 f hf
  · rw [c21, c22]; exact v1.fr s21 he
  · rw [c22, s22.2.1]; exact v3 v hv
  · rw [c23, c24]; exact e1.fr s23 he
  · rw [c24, s24.2.1]; exact e3 e h9
  · rw [c25, c26]; exact w1.fr s25 he
  · rw [c29, c30]; exact n1.fr s29 he
  · rw [c14, s14.1]; exact n2
  · rw [c31, nn' 31 (by omega)]; exact n3
  · rw [c31, nn' 31 (by omega)]; exact n4
  · rw [c30, s30.2.1]; exact n5 k hk
  · rw [c18, nn' 18 (by omega)]; exact l1
  · rw [c14, s14.1]; exact l3
  · rw [c18, s18.2.2]
    exact ⟨(l4 i hi).1, (l4 i hi).2.fr (fun a h1 h2 => sm1 a (own a) h1 rfl (by omega)) he ho c25⟩
  · rw [c32, c33]; exact g1.fr s32 he
  · rw [c34, c35]; exact g2.fr s34 he
/-- what is put out -/
def oU (ad : Nat → Nat) (h : xb_H) (ad' : Nat → Nat) (h' : xb_H) (e : Option Int64) : Prop := match e with
  | none => xb_i h' (ad 27) = xb_i h (ad 27) ∧ ad' 28 = ad 28 ∧ xb_l h' (ad 28) = xb_l h (ad 28)
  | some x => ∃ n : Nat, (xb_i h (ad 27) 1).toInt = n ∧ n < 4096 ∧ (xb_i h' (ad 27) 1).toInt = (n + 1 : Nat) ∧ (∀ j, j < n → xb_l h' (ad' 28) j = xb_l h (ad 28) j) ∧ xb_l h' (ad' 28) n = x
theorem oU.pre {ad2 ad3 : Nat → Nat} {h2 h3 : xb_H} {e : Option Int64} (hr : oU ad2 h2 ad3 h3 e) (a27 : ad2 27 = ad 27) (a28 : ad2 28 = ad 28) (i27 : xb_i h2 (ad 27) = xb_i h (ad 27)) (l28 : xb_l h2 (ad 28) = xb_l h (ad 28)) : oU ad h ad3 h3 e := by
  unfold oU at *
  rw [a27, a28, i27, l28] at hr
  exact hr
/-- all that is kept by a call -/
def caQ (own ad : Nat → Nat) (h : xb_H) (W : wD) (σ rc rs : Nat) (own' ad' : Nat → Nat) (h' : xb_H) (bc' bs' : Nat) (o : Oc) (e : Option Int64) : Prop :=
  stp caC [] own ad own' ad' h h' ∧ wI own' ad' h' W σ ∧ mS ad' h' ∧ oR ad h ad' h' W o ∧ oU ad h ad' h' e ∧ bgv ad' h' rc rs bc' bs'
theorem ca_fall {f T rc rs bc bs : Nat} {x : Int32} {κ A : Int} {Qr : xb_H → Nat → Nat → Prop} {Q2 : xb_H → Prop} (hB : cB own ad h) (hW : wI own ad h W σ) (hS : mS ad h) (hc : cP ad h W D gx f T) (hg : bgv ad h rc rs bc bs) (hκ : x.toInt = κ) (hA : 0 < D → (xb_i h (ad 15) 15).toInt = A) (hQ : ∀ (h' : xb_H) (own' ad' : Nat → Nat) (bc' bs' : Nat), caQ own ad h W σ rc rs own' ad' h' bc' bs' (trD κ D gx A) none → Qr h' bc' bs') (h2 : ∀ h' : xb_H, Qr h' bc bs → Q2 h') : w_Machine_fall (ad 15) x h Q2 := by
  obtain ⟨⟨d1, d2, d3, d4⟩, -, ⟨-, d5⟩, d6, -⟩ := hc
  refine mc_fall (W := W) (z := trZ κ D gx A) hB hS d3 d1 (fun h9 => ?_) hκ (fun h9 => by unfold trZ; rw [if_pos h9]) (fun h9 => ?_) (fun h' s f1 => h2 h' (hQ h' own ad bc bs ⟨s.mono (by decide) (fun k hk => hk), ?_, hS.st hB s, f1, ?_, ?_⟩))
  · obtain ⟨-, -, -, -, r12, -⟩ := d5 h9
    obtain ⟨-, q5, -⟩ := d6 (D - 1) (by omega)
    obtain ⟨-, ⟨⟨q1, q2, q3, -⟩, -⟩⟩ := hW.2.2.2.2.2.2.1.2.2.2 _ q5
    refine ⟨_, r12, q1, hB.n1 (by omega) q2, ?_⟩
    unfold trZ
    rw [if_neg (by omega)]
    exact q3
  · obtain ⟨⟨-, y1, -⟩, -⟩ := d6 (D - 1) (by omega)
    unfold trZ
    rw [if_neg (by omega)]
    exact ⟨y1, hA h9⟩
  · obtain ⟨un, u1, u2⟩ := hW.2.2.2.2.1
    have c27 := s.cm hB (by decide) (fun x hx => by cases hx) (k := 27) (by omega) (by decide)
    exact hW.ca hB (s.mono (by decide) (fun k hk => hk)) ⟨un, u1.fr c27.2 s.2.2.2.1, u2⟩
  · exact ⟨(s.cm hB (by decide) (fun x hx => by cases hx) (k := 27) (by omega) (by decide)).2.1, rfl, (s.cm hB (by decide) (fun x hx => by cases hx) (k := 28) (by omega) (by decide)).2.2.1⟩
  · unfold bgv
    rw [(s.2.2.2.1 _ (hB.z 37 (by omega))).2]
    exact (hg.sp (c := 0) (s := 0) (ad' := ad) (h' := h') (fun k hk => ⟨rfl, (s.2.2.2.1 _ (hB.z k hk)).2⟩)).2.2
end RN7
